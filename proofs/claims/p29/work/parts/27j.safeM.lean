/-! ===== safety of the reference's functions ===== -/
def kw_M0 : List Nat := [10077, 10081, 15100, 17800, 17900, 18000]
def kw_M1 : List Nat := [10077, 10081, 15100, 16900, 17800, 17900, 18000]
def kw_M2 : List Nat := [10077, 10081, 13500, 17800, 17900, 18000]
def kw_M3 : List Nat := [10077, 10081, 13500, 15100, 16900, 17800, 17900, 18000]
def kw_M4 : List Nat := [10082]
def kw_M5 : List Nat := [10000, 10082]
def kw_M6 : List Nat := [10000, 10082, 16500]
def kw_M7 : List Nat := [10000, 10061, 10082, 16500]
def kw_M8 : List Nat := [10000, 10061, 10062, 10077, 10081, 10082, 16500, 17800, 17900, 18000]
def kw_M9 : List Nat := [10000, 10061, 10062, 10077, 10081, 10082, 13500, 15100, 16500, 16900, 17800, 17900, 18000]
def kw_M10 : List Nat := [10100]
def kw_M11 : List Nat := [10100, 10200]
def kw_M12 : List Nat := [10100, 10200, 10300]
def kw_M13 : List Nat := [10082, 10100, 10200, 10300]
def kw_M14 : List Nat := [10082, 11100]
def kw_M15 : List Nat := [10082, 11100, 11200]
def kw_M16 : List Nat := [10082, 11100, 11200, 11300]
def kw_M17 : List Nat := [10082, 11100, 11200, 11300, 11400]
def kw_M18 : List Nat := [10082, 11100, 11200, 11300, 11400, 11500]
def kw_M19 : List Nat := [10082, 11000, 11100, 11200, 11300, 11400, 11500]
def kw_M20 : List Nat := [10082, 11000]
def kw_M21 : List Nat := [11600]
def kw_M22 : List Nat := [10082, 11600]
def kw_M23 : List Nat := [10082, 11700]
def kw_M24 : List Nat := [10082, 11800]
def kw_M25 : List Nat := [10082, 11700, 11800]
def kw_M26 : List Nat := [13100]
def kw_M27 : List Nat := [13100, 13200]
def kw_M28 : List Nat := [13100, 13200, 13300]
def kw_M29 : List Nat := [13100, 13200, 13300, 13400]
def kw_M30 : List Nat := [13100, 13200, 13300, 13400, 13500]
def kw_M31 : List Nat := [13100, 13200, 13300, 13400, 13500, 13600]
def kw_M32 : List Nat := [10030, 10077, 10081, 13100, 13200, 13300, 13400, 13500, 13600, 17800, 17900, 18000]
def kw_M33 : List Nat := [12500]
def kw_M34 : List Nat := [10030, 10077, 10081, 12500, 13100, 13200, 13300, 13400, 13500, 13600, 17800, 17900, 18000]
def kw_M35 : List Nat := [10030, 10077, 10081, 12500, 12800, 13100, 13200, 13300, 13400, 13500, 13600, 17800, 17900, 18000]
def kw_M36 : List Nat := [10030, 10077, 10081, 10500, 12500, 12800, 13100, 13200, 13300, 13400, 13500, 13600, 17800, 17900, 18000]
def kw_M37 : List Nat := [10030, 10077, 10081, 10500, 10600, 12500, 12800, 13100, 13200, 13300, 13400, 13500, 13600, 17800, 17900, 18000]
def kw_M38 : List Nat := [10077, 10081, 10100, 17800, 17900, 18000]
def kw_M39 : List Nat := [10400]
def kw_M40 : List Nat := [10200]
def kw_M41 : List Nat := [10200, 10300]
def kw_M42 : List Nat := [10077, 10081, 10100, 10200, 17800, 17900, 18000]
def kw_M43 : List Nat := [10077, 10081, 10100, 10200, 10400, 17800, 17900, 18000]
def kw_M44 : List Nat := [10077, 10081, 10100, 10200, 10300, 10400, 17800, 17900, 18000]
def kw_M45 : List Nat := [10082, 13300]
def kw_M46 : List Nat := [10077, 10081, 10082, 10100, 10200, 10300, 10400, 13300, 17800, 17900, 18000]
def kw_M47 : List Nat := [10077, 10081, 10082, 10100, 10200, 10300, 10400, 13300, 13600, 17800, 17900, 18000]
def kw_M48 : List Nat := [10077, 10081, 10082, 13500, 15100, 16900, 17800, 17900, 18000]
def kw_M49 : List Nat := [10082, 10800]
def kw_M50 : List Nat := [10030, 10077, 10081, 10082, 13100, 13200, 13300, 13400, 13500, 13600, 17800, 17900, 18000]
def kw_M51 : List Nat := [10082, 13700]
def kw_M52 : List Nat := [10077, 10081, 10082, 13700, 15100, 16900, 17800, 17900, 18000]
def kw_M53 : List Nat := [10082, 13800]
def kw_M54 : List Nat := [10082, 13300, 14000]
def kw_M55 : List Nat := [10082, 13300, 14000, 14100]
def kw_M56 : List Nat := [10082, 13300, 14000, 14100, 14200]
def kw_M57 : List Nat := [10082, 13300, 14000, 14100, 14200, 14300]
def kw_M58 : List Nat := [10082, 13300, 14000, 14100, 14200, 14300, 14400]
def kw_M59 : List Nat := [10082, 13300, 14000, 14100, 14200, 14300, 14400, 14500]
def kw_M60 : List Nat := [10039, 10082, 13300, 14000, 14100, 14200, 14300, 14400, 14500]
def kw_M61 : List Nat := [15700]
def kw_M62 : List Nat := [15300, 15700]
def kw_M63 : List Nat := [15300, 15400, 15700]
def kw_M64 : List Nat := [15300, 15400, 15500, 15700]
def kw_M65 : List Nat := [15300, 15400, 15500, 15600, 15700]
def kw_M66 : List Nat := [15300, 15400, 15500, 15600, 15700, 15900]
def kw_M67 : List Nat := [15300, 15400, 15500, 15600, 15700, 15800, 15900]
def kw_M68 : List Nat := [15000, 15300, 15400, 15500, 15600, 15700, 15800, 15900]
def kw_M69 : List Nat := [10052, 15000, 15300, 15400, 15500, 15600, 15700, 15800, 15900]
def kw_M70 : List Nat := [10082, 14700]
def kw_M71 : List Nat := [10082, 14700, 14800]
def kw_M72 : List Nat := [10082, 14700, 14800, 14900]
def kw_M73 : List Nat := [10082, 14700, 14800, 14900, 15100]
def kw_M74 : List Nat := [10046, 10077, 10081, 10082, 14500, 14700, 14800, 14900, 15100, 17800, 17900, 18000]
def kw_M75 : List Nat := [10046, 10052, 10077, 10081, 10082, 14500, 14700, 14800, 14900, 15000, 15100, 15300, 15400, 15500, 15600, 15700, 15800, 15900, 17800, 17900, 18000]
def kw_M76 : List Nat := [10077, 10081, 10082, 15100, 16900, 17800, 17900, 18000]
def kw_M77 : List Nat := [10046, 10052, 10077, 10081, 10082, 14500, 14700, 14800, 14900, 15000, 15100, 15300, 15400, 15500, 15600, 15700, 15800, 15900, 16900, 17800, 17900, 18000]
def kw_M78 : List Nat := [10082, 14800]
def kw_M79 : List Nat := [10082, 14800, 14900]
def kw_M80 : List Nat := [10052, 10082, 14800, 14900, 15000, 15300, 15400, 15500, 15600, 15700, 15800, 15900]
def kw_M81 : List Nat := [10052, 10082, 13300, 14800, 14900, 15000, 15300, 15400, 15500, 15600, 15700, 15800, 15900]
def kw_M82 : List Nat := [10052, 10077, 10081, 10082, 13300, 14800, 14900, 15000, 15100, 15300, 15400, 15500, 15600, 15700, 15800, 15900, 16900, 17800, 17900, 18000]
def kw_M83 : List Nat := [10052, 10082, 15000, 15300, 15400, 15500, 15600, 15700, 15800, 15900]
def kw_M84 : List Nat := [10062, 10082]
def kw_M85 : List Nat := [10062, 10063, 10082]
def kw_M86 : List Nat := [10060, 10062, 10063, 10082]
def kw_M87 : List Nat := [10082, 16400]
def kw_M88 : List Nat := [10062, 10082, 16400]
def kw_M89 : List Nat := [10060, 10062, 10082, 16400]
def kw_M90 : List Nat := [10060, 10061, 10062, 10082, 16400]
def kw_M91 : List Nat := [10060, 10061, 10062, 10077, 10081, 10082, 16400, 17800, 17900, 18000]
def kw_M92 : List Nat := [10082, 16600]
def kw_M93 : List Nat := [10082, 16600, 16900]
def kw_M94 : List Nat := [10082, 16700]
def kw_M95 : List Nat := [10082, 16700, 16800]
def kw_M96 : List Nat := [10082, 17100]
def kw_M97 : List Nat := [10082, 17100, 17200]
def kw_M98 : List Nat := [10082, 17100, 17200, 17300]
def kw_M99 : List Nat := [10070, 10082, 17100, 17200, 17300]
def kw_M100 : List Nat := [10082, 17400]
def kw_M101 : List Nat := [10082, 17400, 17500]
def kw_M102 : List Nat := [10082, 17300]
def kw_M103 : List Nat := [10077, 10081, 10082, 13500, 15100, 16900, 17300, 17800, 17900, 18000]
def kw_M104 : List Nat := [10077, 10081, 10082, 10100, 13500, 15100, 16900, 17300, 17800, 17900, 18000]
def kw_M105 : List Nat := [10077, 10081, 10082, 10100, 10200, 10300, 13500, 15100, 16900, 17300, 17800, 17900, 18000]
def kw_M106 : List Nat := [10082, 17600]
def kw_M107 : List Nat := [10082, 10700]
def kw_M108 : List Nat := [10077, 10081, 10082, 10700, 13500, 15100, 16900, 17800, 17900, 18000]
def kw_M109 : List Nat := [10077, 10081, 10082, 10700, 12500, 13500, 15100, 16900, 17800, 17900, 18000]
def kw_M110 : List Nat := [10077, 10081, 10082, 10700, 12500, 13500, 15100, 16900, 17300, 17800, 17900, 18000]
def kw_M111 : List Nat := [10500]
def kw_M112 : List Nat := [10500, 10600]
def kw_M113 : List Nat := [13600]
def kw_M114 : List Nat := [10500, 13600]
def kw_M115 : List Nat := [10500, 10600, 13600]
def kw_M116 : List Nat := [17300]
theorem t_M_hears_B45_4c1 {T : Nat → Nat} {S : AS} (hT : TI T S) {x0 : Option Nat} {x1 : Int32} {x2 : Int32} {x4 : Int32} {k5 : AS → Option Nat → Int32 → Int32 → Int32 → Int32 → Option (Int32 × AS)} {n5 : Nat} (hk5 : ∀ (z0 : Option Nat) (z1 : Int32) (z2 : Int32) (z3 : Int32) (z4 : Int32), Tx T 100 z0 → In 0 1 z3 → In 0 200 z4 → (200 + 1 : Int) ≤ z4.toInt + (n5 : Int) → Ho (k5 S z0 z1 z2 z3 z4) (fun q => q.2 = S ∧ In 0 1 q.1)) (hm5 : (200 + 1 : Int) ≤ x4.toInt + ((n5 + 1 : Nat) : Int)) (h_x0 : Tx T 100 x0) (h_x4 : In 0 199 x4) (hx_57_52 : In 1 200 (sI S 57 52)) : Ho (f_M_hears_B45 k5 S x0 x1 x2 x4 (1 : Int32)) (fun q => q.2 = S ∧ In 0 1 q.1) := by
  unfold f_M_hears_B45
  refine r_val ?_
  generalize ei1 : (x4 + (1 : Int32)) = i1
  have qi1 : In 1 200 i1 := by rw [← ei1]; exact (In_w (In_add h_x4 (by decide : In 1 1 (1 : Int32)) (by decide) (by decide)) (by decide) (by decide) : In 1 200 (x4 + (1 : Int32)))
  exact hk5  x0 x1 x2 (1 : Int32) i1  h_x0 (In_w (by decide : In 1 1 (1 : Int32)) (by decide) (by decide)) (In_w qi1 (by decide) (by decide))  (by rw [← ei1, toInt_add1 h_x4 (by decide) (by decide)]; omega)
theorem t_M_hears_B45_4c0 {T : Nat → Nat} {S : AS} (hT : TI T S) {x0 : Option Nat} {x1 : Int32} {x2 : Int32} {x4 : Int32} {k5 : AS → Option Nat → Int32 → Int32 → Int32 → Int32 → Option (Int32 × AS)} {n5 : Nat} (hk5 : ∀ (z0 : Option Nat) (z1 : Int32) (z2 : Int32) (z3 : Int32) (z4 : Int32), Tx T 100 z0 → In 0 1 z3 → In 0 200 z4 → (200 + 1 : Int) ≤ z4.toInt + (n5 : Int) → Ho (k5 S z0 z1 z2 z3 z4) (fun q => q.2 = S ∧ In 0 1 q.1)) (hm5 : (200 + 1 : Int) ≤ x4.toInt + ((n5 + 1 : Nat) : Int)) (h_x0 : Tx T 100 x0) (h_x4 : In 0 199 x4) (hx_57_52 : In 1 200 (sI S 57 52)) : Ho (f_M_hears_B45 k5 S x0 x1 x2 x4 (0 : Int32)) (fun q => q.2 = S ∧ In 0 1 q.1) := by
  unfold f_M_hears_B45
  refine r_val ?_
  generalize ei1 : (x4 + (1 : Int32)) = i1
  have qi1 : In 1 200 i1 := by rw [← ei1]; exact (In_w (In_add h_x4 (by decide : In 1 1 (1 : Int32)) (by decide) (by decide)) (by decide) (by decide) : In 1 200 (x4 + (1 : Int32)))
  exact hk5  x0 x1 x2 (0 : Int32) i1  h_x0 (In_w (by decide : In 0 0 (0 : Int32)) (by decide) (by decide)) (In_w qi1 (by decide) (by decide))  (by rw [← ei1, toInt_add1 h_x4 (by decide) (by decide)]; omega)
theorem t_M_hears_B40 {T : Nat → Nat} {S : AS} (hT : TI T S) {x0 : Option Nat} {x1 : Int32} {x2 : Int32} {x4 : Int32} {k5 : AS → Option Nat → Int32 → Int32 → Int32 → Int32 → Option (Int32 × AS)} {n5 : Nat} (hk5 : ∀ (z0 : Option Nat) (z1 : Int32) (z2 : Int32) (z3 : Int32) (z4 : Int32), Tx T 100 z0 → In 0 1 z3 → In 0 200 z4 → (200 + 1 : Int) ≤ z4.toInt + (n5 : Int) → Ho (k5 S z0 z1 z2 z3 z4) (fun q => q.2 = S ∧ In 0 1 q.1)) (hm5 : (200 + 1 : Int) ≤ x4.toInt + ((n5 + 1 : Nat) : Int)) (h_x0 : Tx T 100 x0) (h_x4 : In 0 199 x4) (hx_57_52 : In 1 200 (sI S 57 52)) : Ho (f_M_hears_B40 k5 S x0 x1 x2 x4) (fun q => q.2 = S ∧ In 0 1 q.1) := by
  unfold f_M_hears_B40
  exact t_M_hears_B45_4c1 hT hk5 hm5 h_x0 (In_w h_x4 (by decide) (by decide)) (In_w hx_57_52 (by decide) (by decide)) 
theorem t_M_hears_B44 {T : Nat → Nat} {S : AS} (hT : TI T S) {x0 : Option Nat} {x1 : Int32} {x2 : Int32} {x4 : Int32} {k5 : AS → Option Nat → Int32 → Int32 → Int32 → Int32 → Option (Int32 × AS)} {n5 : Nat} (hk5 : ∀ (z0 : Option Nat) (z1 : Int32) (z2 : Int32) (z3 : Int32) (z4 : Int32), Tx T 100 z0 → In 0 1 z3 → In 0 200 z4 → (200 + 1 : Int) ≤ z4.toInt + (n5 : Int) → Ho (k5 S z0 z1 z2 z3 z4) (fun q => q.2 = S ∧ In 0 1 q.1)) (hm5 : (200 + 1 : Int) ≤ x4.toInt + ((n5 + 1 : Nat) : Int)) (h_x0 : Tx T 100 x0) (h_x4 : In 0 199 x4) (hx_57_52 : In 1 200 (sI S 57 52)) : Ho (f_M_hears_B44 k5 S x0 x1 x2 x4) (fun q => q.2 = S ∧ In 0 1 q.1) := by
  unfold f_M_hears_B44
  exact t_M_hears_B45_4c0 hT hk5 hm5 h_x0 (In_w h_x4 (by decide) (by decide)) (In_w hx_57_52 (by decide) (by decide)) 
theorem t_M_hears_C5 {T : Nat → Nat} {S : AS} (hT : TI T S) {x0 : Option Nat} {x1 : Int32} {x2 : Int32} {x3 : Int32} {x4 : Int32} {k5 : AS → Option Nat → Int32 → Int32 → Int32 → Int32 → Option (Int32 × AS)} {n5 : Nat} (hk5 : ∀ (z0 : Option Nat) (z1 : Int32) (z2 : Int32) (z3 : Int32) (z4 : Int32), Tx T 100 z0 → In 0 1 z3 → In 0 200 z4 → (200 + 1 : Int) ≤ z4.toInt + (n5 : Int) → Ho (k5 S z0 z1 z2 z3 z4) (fun q => q.2 = S ∧ In 0 1 q.1)) (hm5 : (200 + 1 : Int) ≤ x4.toInt + ((n5 + 1 : Nat) : Int)) (h_x0 : Tx T 100 x0) (h_x3 : In 0 1 x3) (h_x4 : In 0 200 x4) : Ho (f_M_hears_C5 k5 S x0 x1 x2 x3 x4) (fun q => q.2 = S ∧ In 0 1 q.1) := by
  unfold f_M_hears_C5
  refine r_gIs hT h_x0 rfl (p := 57) rfl (fun v2 b1 e2 => ?_)
  have q3 : In 0 200 v2 := b1 _ _ rfl
  refine r_if (fun c4 => ?_) (fun c4 => ?_)
  · refine r_z (In_w h_x3 (by decide) (by decide)) ?_
    exact r_some ⟨rfl, (In_w h_x3 (by decide) (by decide))⟩
  · have q5 : In 0 199 x4 := In_w (In_lt1 (Int32.not_le.mp c4) h_x4 q3) (by decide) (by decide)
    have q6 : In 1 200 v2 := In_w (In_lt2 (Int32.not_le.mp c4) h_x4 q3) (by decide) (by decide)
    refine r_if (fun c7 => ?_) (fun c7 => ?_)
    · have q8 : In 0 0 x3 := In_w (In_eq c7 (by decide : In 0 0 (0 : Int32))) (by decide) (by decide)
      refine r_gR hT h_x0 rfl rfl (fun v4 h9 => ?_)
      refine r_aIs hT h9 rfl (p := 108) rfl rfl (In_w q5 (by decide) (by decide) : In 0 199 x4) (by decide) (fun v5 b10 e11 => ?_)
      have q12 : In 0 59 v5 := b10 _ _ rfl
      refine r_if (fun c13 => ?_) (fun c13 => ?_)
      · refine r_gR hT h_x0 rfl rfl (fun v6 h14 => ?_)
        refine r_aIs hT h14 rfl (p := 105) rfl rfl (In_w q5 (by decide) (by decide) : In 0 199 x4) (by decide) (fun v7 b15 e16 => ?_)
        have q17 : In 0 3 v7 := b15 _ _ rfl
        refine r_if (fun c18 => ?_) (fun c18 => ?_)
        · exact t_M_hears_B40 hT hk5 hm5 h_x0 (In_w q5 (by decide) (by decide)) (In_w (In_cell e2 q6) (by decide) (by decide))
        · exact t_M_hears_B44 hT hk5 hm5 h_x0 (In_w q5 (by decide) (by decide)) (In_w (In_cell e2 q6) (by decide) (by decide))
      · exact t_M_hears_B44 hT hk5 hm5 h_x0 (In_w q5 (by decide) (by decide)) (In_w (In_cell e2 q6) (by decide) (by decide))
    · have q19 : In 1 1 x3 := In_w (In_neL c7 h_x3 (by decide)) (by decide) (by decide)
      exact t_M_hears_B40 hT hk5 hm5 h_x0 (In_w q5 (by decide) (by decide)) (In_w (In_cell e2 q6) (by decide) (by decide)) 
theorem t_M_hears_L5 {T : Nat → Nat} {S : AS} (hT : TI T S) : ∀ (n : Nat) (x0 : Option Nat) (x1 : Int32) (x2 : Int32) (x3 : Int32) (x4 : Int32), Tx T 100 x0 → In 0 1 x3 → In 0 200 x4 → (200 + 1 : Int) ≤ x4.toInt + (n : Int) → Ho (f_M_hears_L5  n S x0 x1 x2 x3 x4) (fun q => q.2 = S ∧ In 0 1 q.1) := by
  intro n
  induction n with
  | zero =>
    intro x0 x1 x2 x3 x4 h_x0 h_x3 h_x4 hm
    exact absurd hm (by have := h_x4.2; omega)
  | succ n ih =>
    intro x0 x1 x2 x3 x4 h_x0 h_x3 h_x4 hm
    exact t_M_hears_C5 hT  (fun z0 z1 z2 z3 z4 a_h_x0 a_h_x3 a_h_x4 am => ih z0 z1 z2 z3 z4 a_h_x0 a_h_x3 a_h_x4 am) hm h_x0 h_x3 h_x4 
theorem t_M_hears {T : Nat → Nat} {S : AS} (hT : TI T S) {a0 : Option Nat} {a1 : Int32} {a2 : Int32} (h_a0 : Tx T 100 a0) : Ho (f_M_hears  S a0 a1 a2) (fun q => q.2 = S ∧ In 0 1 q.1) := by
  unfold f_M_hears
  exact t_M_hears_L5 hT   kr_FU  a0 a1 a2 (0 : Int32) (0 : Int32)  h_a0 (In_w (by decide : In 0 0 (0 : Int32)) (by decide) (by decide)) (In_w (by decide : In 0 0 (0 : Int32)) (by decide) (by decide))  (by decide)
theorem t_M_endFamily_B63_3t169_5c1 {T : Nat → Nat} {S0 S : AS} (g : Rl T kw_M1 S0 0 0 T S) {x0 : Option Nat} {x1 : Int32} {x2 : Int32} {y0 : Option Nat} {y1 : Int32} {k25 : AS → Option Nat → Int32 → Int32 → Option AS} {n25 : Nat} (hk25 : ∀ (S' : AS) (z0 : Option Nat) (z1 : Int32) (z2 : Int32), Rl T kw_M1 S0 0 0 T S' → Tx T 100 z0 → In 0 59 z1 → In 0 4 z2 → (4 + 1 : Int) ≤ z2.toInt + (n25 : Int) → Ho (k25 S' z0 z1 z2) (fun q => Rl T kw_M1 S0 0 0 T q)) (hm25 : (4 + 1 : Int) ≤ x2.toInt + ((n25 + 1 : Nat) : Int)) (h_x0 : Tx T 100 x0) (h_x1 : In 0 59 x1) (h_x2 : In 0 3 x2) (h_y0 : Tx T 169 y0) (h_y1 : In 0 239 y1) (hfph0 : Ph S0 ≤ 1190) : Ho (f_M_endFamily_B63 k25 S x0 x1 x2 y0 y1 (1 : Int32)) (fun q => Rl T kw_M1 S0 0 0 T q) := by
  unfold f_M_endFamily_B63
  refine r_bZs (w' := kw_M1) g h_y0 rfl (p := 116) rfl rfl (In_w h_y1 (by decide) (by decide) : In 0 239 y1) (by decide) (In_w (by decide : In 1 1 (1 : Int32)) (by decide) (by decide)) (fun _ _ _ q => by cases q; exact (In_w (by decide : In 1 1 (1 : Int32)) (by decide) (by decide))) (fun _ => rfl) (by decide) (by decide +kernel) (fun _ => by unfold phc; omega) (fun s1 g2 e3 => ?_)
  have f4 : In 1 1 (sI s1 116 y1.toNatClampNeg) := In_eqw e3 (In_w (by decide : In 1 1 (1 : Int32)) (by decide) (by decide))
  refine r_val ?_
  generalize ei2 : (x2 + (1 : Int32)) = i2
  have qi2 : In 1 4 i2 := by rw [← ei2]; exact (In_w (In_add h_x2 (by decide : In 1 1 (1 : Int32)) (by decide) (by decide)) (by decide) (by decide) : In 1 4 (x2 + (1 : Int32)))
  exact hk25 s1 x0 x1 i2 (Rlweak g2 (by decide +kernel) (by decide) (by decide)) h_x0 (In_w h_x1 (by decide) (by decide)) (In_w qi2 (by decide) (by decide))  (by rw [← ei2, toInt_add1 h_x2 (by decide) (by decide)]; omega)
theorem t_M_endFamily_B63_3t169_5c0 {T : Nat → Nat} {S0 S : AS} (g : Rl T kw_M1 S0 0 0 T S) {x0 : Option Nat} {x1 : Int32} {x2 : Int32} {y0 : Option Nat} {y1 : Int32} {k25 : AS → Option Nat → Int32 → Int32 → Option AS} {n25 : Nat} (hk25 : ∀ (S' : AS) (z0 : Option Nat) (z1 : Int32) (z2 : Int32), Rl T kw_M1 S0 0 0 T S' → Tx T 100 z0 → In 0 59 z1 → In 0 4 z2 → (4 + 1 : Int) ≤ z2.toInt + (n25 : Int) → Ho (k25 S' z0 z1 z2) (fun q => Rl T kw_M1 S0 0 0 T q)) (hm25 : (4 + 1 : Int) ≤ x2.toInt + ((n25 + 1 : Nat) : Int)) (h_x0 : Tx T 100 x0) (h_x1 : In 0 59 x1) (h_x2 : In 0 3 x2) (h_y0 : Tx T 169 y0) (h_y1 : In 0 239 y1) (hfph0 : Ph S0 ≤ 1190) : Ho (f_M_endFamily_B63 k25 S x0 x1 x2 y0 y1 (0 : Int32)) (fun q => Rl T kw_M1 S0 0 0 T q) := by
  unfold f_M_endFamily_B63
  refine r_bZs (w' := kw_M1) g h_y0 rfl (p := 116) rfl rfl (In_w h_y1 (by decide) (by decide) : In 0 239 y1) (by decide) (In_w (by decide : In 0 0 (0 : Int32)) (by decide) (by decide)) (fun _ _ _ q => by cases q; exact (In_w (by decide : In 0 0 (0 : Int32)) (by decide) (by decide))) (fun _ => rfl) (by decide) (by decide +kernel) (fun _ => by unfold phc; omega) (fun s1 g2 e3 => ?_)
  have f4 : In 0 0 (sI s1 116 y1.toNatClampNeg) := In_eqw e3 (In_w (by decide : In 0 0 (0 : Int32)) (by decide) (by decide))
  refine r_val ?_
  generalize ei2 : (x2 + (1 : Int32)) = i2
  have qi2 : In 1 4 i2 := by rw [← ei2]; exact (In_w (In_add h_x2 (by decide : In 1 1 (1 : Int32)) (by decide) (by decide)) (by decide) (by decide) : In 1 4 (x2 + (1 : Int32)))
  exact hk25 s1 x0 x1 i2 (Rlweak g2 (by decide +kernel) (by decide) (by decide)) h_x0 (In_w h_x1 (by decide) (by decide)) (In_w qi2 (by decide) (by decide))  (by rw [← ei2, toInt_add1 h_x2 (by decide) (by decide)]; omega)
theorem t_M_endFamily_B62_3t169 {T : Nat → Nat} {S0 S : AS} (g : Rl T kw_M1 S0 0 0 T S) {x0 : Option Nat} {x1 : Int32} {x2 : Int32} {y0 : Option Nat} {y1 : Int32} {k25 : AS → Option Nat → Int32 → Int32 → Option AS} {n25 : Nat} (hk25 : ∀ (S' : AS) (z0 : Option Nat) (z1 : Int32) (z2 : Int32), Rl T kw_M1 S0 0 0 T S' → Tx T 100 z0 → In 0 59 z1 → In 0 4 z2 → (4 + 1 : Int) ≤ z2.toInt + (n25 : Int) → Ho (k25 S' z0 z1 z2) (fun q => Rl T kw_M1 S0 0 0 T q)) (hm25 : (4 + 1 : Int) ≤ x2.toInt + ((n25 + 1 : Nat) : Int)) (h_x0 : Tx T 100 x0) (h_x1 : In 0 59 x1) (h_x2 : In 0 3 x2) (h_y0 : Tx T 169 y0) (h_y1 : In 0 239 y1) (hfph0 : Ph S0 ≤ 1190) : Ho (f_M_endFamily_B62 k25 S x0 x1 x2 y0 y1) (fun q => Rl T kw_M1 S0 0 0 T q) := by
  unfold f_M_endFamily_B62
  exact t_M_endFamily_B63_3t169_5c0 (Rlweak g (by decide +kernel) (by decide) (by decide)) hk25 hm25 h_x0 (In_w h_x1 (by decide) (by decide)) (In_w h_x2 (by decide) (by decide)) h_y0 (In_w h_y1 (by decide) (by decide)) (Int.le_trans hfph0 (by decide))
theorem t_M_endFamily_C25 {T : Nat → Nat} {S0 S : AS} (g : Rl T kw_M1 S0 0 0 T S) {x0 : Option Nat} {x1 : Int32} {x2 : Int32} {k25 : AS → Option Nat → Int32 → Int32 → Option AS} {n25 : Nat} (hk25 : ∀ (S' : AS) (z0 : Option Nat) (z1 : Int32) (z2 : Int32), Rl T kw_M1 S0 0 0 T S' → Tx T 100 z0 → In 0 59 z1 → In 0 4 z2 → (4 + 1 : Int) ≤ z2.toInt + (n25 : Int) → Ho (k25 S' z0 z1 z2) (fun q => Rl T kw_M1 S0 0 0 T q)) (hm25 : (4 + 1 : Int) ≤ x2.toInt + ((n25 + 1 : Nat) : Int)) (h_x0 : Tx T 100 x0) (h_x1 : In 0 59 x1) (h_x2 : In 0 4 x2) (hfph0 : Ph S0 ≤ 1190) : Ho (f_M_endFamily_C25 k25 S x0 x1 x2) (fun q => Rl T kw_M1 S0 0 0 T q) := by
  unfold f_M_endFamily_C25
  refine r_if (fun c1 => ?_) (fun c1 => ?_)
  · have q2 : In 4 4 x2 := In_w (In_le2 c1 (by decide : In 4 4 (4 : Int32)) h_x2) (by decide) (by decide)
    exact r_some (Rlweak g (by decide +kernel) (by decide) (by decide))
  · have q3 : In 0 3 x2 := In_w (In_lt1 (Int32.not_le.mp c1) h_x2 (by decide : In 4 4 (4 : Int32))) (by decide) (by decide)
    refine r_gR g.1 h_x0 rfl rfl (fun v3 h4 => ?_)
    refine r_gR g.1 h_x0 rfl rfl (fun v4 h5 => ?_)
    refine r_aIs g.1 h5 rfl (p := 113) rfl rfl (In_w q3 (by decide) (by decide) : In 0 3 x2) (by decide) (fun v5 b6 e7 => ?_)
    have q8 : In 0 1 v5 := b6 _ _ rfl
    refine r_if (fun c9 => ?_) (fun c9 => ?_)
    · have q10 : In 0 0 v5 := In_w (In_eq c9 (by decide : In 0 0 (0 : Int32))) (by decide) (by decide)
      refine r_rv g.1 h_x0 rfl ?_
      refine r_P (P := fun v => In 0 1 v) (t_M_hears g.1 h_x0) (fun v8 h11 => ?_)
      refine r_if (fun c12 => ?_) (fun c12 => ?_)
      · have q13 : In 0 0 v8 := In_w (In_eq c12 (by decide : In 0 0 (0 : Int32))) (by decide) (by decide)
        exact t_M_endFamily_B62_3t169 (Rlweak g (by decide +kernel) (by decide) (by decide)) hk25 hm25 h_x0 (In_w h_x1 (by decide) (by decide)) (In_w q3 (by decide) (by decide)) h4 (In_w (In_w (In_add (In_w (In_mulc (k := 60) q3 (by decide) (by decide) (by decide) (by decide)) (by decide) (by decide) : In 0 180 ((60 : Int32) * x2)) h_x1 (by decide) (by decide)) (by decide) (by decide) : In 0 239 (((60 : Int32) * x2) + x1)) (by decide) (by decide)) (Int.le_trans hfph0 (by decide))
      · have q14 : In 1 1 v8 := In_w (In_neL c12 h11 (by decide)) (by decide) (by decide)
        exact t_M_endFamily_B63_3t169_5c1 (Rlweak g (by decide +kernel) (by decide) (by decide)) hk25 hm25 h_x0 (In_w h_x1 (by decide) (by decide)) (In_w q3 (by decide) (by decide)) h4 (In_w (In_w (In_add (In_w (In_mulc (k := 60) q3 (by decide) (by decide) (by decide) (by decide)) (by decide) (by decide) : In 0 180 ((60 : Int32) * x2)) h_x1 (by decide) (by decide)) (by decide) (by decide) : In 0 239 (((60 : Int32) * x2) + x1)) (by decide) (by decide)) (Int.le_trans hfph0 (by decide))
    · have q15 : In 1 1 v5 := In_w (In_neL c9 q8 (by decide)) (by decide) (by decide)
      exact t_M_endFamily_B62_3t169 (Rlweak g (by decide +kernel) (by decide) (by decide)) hk25 hm25 h_x0 (In_w h_x1 (by decide) (by decide)) (In_w q3 (by decide) (by decide)) h4 (In_w (In_w (In_add (In_w (In_mulc (k := 60) q3 (by decide) (by decide) (by decide) (by decide)) (by decide) (by decide) : In 0 180 ((60 : Int32) * x2)) h_x1 (by decide) (by decide)) (by decide) (by decide) : In 0 239 (((60 : Int32) * x2) + x1)) (by decide) (by decide)) (Int.le_trans hfph0 (by decide))
theorem t_M_endFamily_L25 {T : Nat → Nat} {S0 : AS} (hfph0 : Ph S0 ≤ 1190) : ∀ (n : Nat) (S : AS) (x0 : Option Nat) (x1 : Int32) (x2 : Int32), Rl T kw_M1 S0 0 0 T S → Tx T 100 x0 → In 0 59 x1 → In 0 4 x2 → (4 + 1 : Int) ≤ x2.toInt + (n : Int) → Ho (f_M_endFamily_L25  n S x0 x1 x2) (fun q => Rl T kw_M1 S0 0 0 T q) := by
  intro n
  induction n with
  | zero =>
    intro S x0 x1 x2 g h_x0 h_x1 h_x2 hm
    exact absurd hm (by have := h_x2.2; omega)
  | succ n ih =>
    intro S x0 x1 x2 g h_x0 h_x1 h_x2 hm
    exact t_M_endFamily_C25 g  (fun S' z0 z1 z2 g' a_h_x0 a_h_x1 a_h_x2 am => ih S' z0 z1 z2 g' a_h_x0 a_h_x1 a_h_x2 am) hm h_x0 h_x1 h_x2 hfph0
theorem t_M_endFamily {T : Nat → Nat} {S : AS} (hT : TI T S) {a0 : Option Nat} {a1 : Int32} (h_a0 : Tx T 100 a0) (h_a1 : In 0 59 a1) (hfph0 : Ph S ≤ 1190) : Ho (f_M_endFamily  S a0 a1) (fun q => Rl T kw_M1 S 0 0 T q) := by
  have g0 := Rlrf hT
  unfold f_M_endFamily
  refine r_gR g0.1 h_a0 rfl rfl (fun v9 h1 => ?_)
  refine r_aIs g0.1 h1 rfl (p := 103) rfl rfl (In_w h_a1 (by decide) (by decide) : In 0 59 a1) (by decide) (fun v10 b2 e3 => ?_)
  have q4 : In 0 1 v10 := b2 _ _ rfl
  refine r_if (fun c5 => ?_) (fun c5 => ?_)
  · have q6 : In 0 0 v10 := In_w (In_eq c5 (by decide : In 0 0 (0 : Int32))) (by decide) (by decide)
    exact r_some (Rlweak g0 (by decide +kernel) (by decide) (by decide))
  · have q7 : In 1 1 v10 := In_w (In_neL c5 q4 (by decide)) (by decide) (by decide)
    refine r_gR g0.1 h_a0 rfl rfl (fun v11 h8 => ?_)
    refine r_kill (w' := kw_M0) g0 h8 (by decide) h_a0 (In_w h_a1 (by decide) (by decide)) (In_cell e3 q7) (phS hfph0 g0 (by decide)) (by decide +kernel) (fun s11 g12 => ?_)
    exact t_M_endFamily_L25  (Int.le_trans hfph0 (by decide)) kr_FU s11 a0 a1 (0 : Int32) (Rlweak g12 (by decide +kernel) (by decide) (by decide)) h_a0 (In_w h_a1 (by decide) (by decide)) (In_w (by decide : In 0 0 (0 : Int32)) (by decide) (by decide))  (by decide)
theorem t_M_endFamiliesOf_B30 {T : Nat → Nat} {S0 S : AS} (g : Rl T kw_M1 S0 0 0 T S) {x0 : Option Nat} {x1 : Int32} {x2 : Int32} {k2 : AS → Option Nat → Int32 → Int32 → Option AS} {n2 : Nat} (hk2 : ∀ (S' : AS) (z0 : Option Nat) (z1 : Int32) (z2 : Int32), Rl T kw_M1 S0 0 0 T S' → Tx T 100 z0 → In 0 60 z2 → (60 + 1 : Int) ≤ z2.toInt + (n2 : Int) → Ho (k2 S' z0 z1 z2) (fun q => Rl T kw_M1 S0 0 0 T q)) (hm2 : (60 + 1 : Int) ≤ x2.toInt + ((n2 + 1 : Nat) : Int)) (h_x0 : Tx T 100 x0) (h_x2 : In 0 59 x2) (hx_57_46 : In 1 60 (sI S 57 46)) (hfph0 : Ph S0 ≤ 1180) : Ho (f_M_endFamiliesOf_B30 k2 S x0 x1 x2) (fun q => Rl T kw_M1 S0 0 0 T q) := by
  unfold f_M_endFamiliesOf_B30
  refine r_val ?_
  generalize ei1 : (x2 + (1 : Int32)) = i1
  have qi1 : In 1 60 i1 := by rw [← ei1]; exact (In_w (In_add h_x2 (by decide : In 1 1 (1 : Int32)) (by decide) (by decide)) (by decide) (by decide) : In 1 60 (x2 + (1 : Int32)))
  exact hk2 S x0 x1 i1 (Rlweak g (by decide +kernel) (by decide) (by decide)) h_x0 (In_w qi1 (by decide) (by decide))  (by rw [← ei1, toInt_add1 h_x2 (by decide) (by decide)]; omega)
theorem t_M_endFamiliesOf_C2 {T : Nat → Nat} {S0 S : AS} (g : Rl T kw_M1 S0 0 0 T S) {x0 : Option Nat} {x1 : Int32} {x2 : Int32} {k2 : AS → Option Nat → Int32 → Int32 → Option AS} {n2 : Nat} (hk2 : ∀ (S' : AS) (z0 : Option Nat) (z1 : Int32) (z2 : Int32), Rl T kw_M1 S0 0 0 T S' → Tx T 100 z0 → In 0 60 z2 → (60 + 1 : Int) ≤ z2.toInt + (n2 : Int) → Ho (k2 S' z0 z1 z2) (fun q => Rl T kw_M1 S0 0 0 T q)) (hm2 : (60 + 1 : Int) ≤ x2.toInt + ((n2 + 1 : Nat) : Int)) (h_x0 : Tx T 100 x0) (h_x2 : In 0 60 x2) (hfph0 : Ph S0 ≤ 1180) : Ho (f_M_endFamiliesOf_C2 k2 S x0 x1 x2) (fun q => Rl T kw_M1 S0 0 0 T q) := by
  unfold f_M_endFamiliesOf_C2
  refine r_gIs g.1 h_x0 rfl (p := 57) rfl (fun v2 b1 e2 => ?_)
  have q3 : In 0 60 v2 := b1 _ _ rfl
  refine r_if (fun c4 => ?_) (fun c4 => ?_)
  · exact r_some (Rlweak g (by decide +kernel) (by decide) (by decide))
  · have q5 : In 0 59 x2 := In_w (In_lt1 (Int32.not_le.mp c4) h_x2 q3) (by decide) (by decide)
    have q6 : In 1 60 v2 := In_w (In_lt2 (Int32.not_le.mp c4) h_x2 q3) (by decide) (by decide)
    refine r_gR g.1 h_x0 rfl rfl (fun v3 h7 => ?_)
    refine r_gR g.1 h_x0 rfl rfl (fun v4 h8 => ?_)
    refine r_aIs g.1 h8 rfl (p := 99) rfl rfl (In_w q5 (by decide) (by decide) : In 0 59 x2) (by decide) (fun v5 b9 e10 => ?_)
    have q11 : In 0 59 v5 := b9 _ _ rfl
    refine r_aIs g.1 h7 rfl (p := 93) rfl rfl (In_w q11 (by decide) (by decide) : In 0 59 v5) (by decide) (fun v6 b12 e13 => ?_)
    have q14 : In 0 59 v6 := b12 _ _ rfl
    refine r_if (fun c15 => ?_) (fun c15 => ?_)
    · refine r_rv g.1 h_x0 rfl ?_
      refine r_bind (t_M_endFamily g.1 h_x0 (In_w q5 (by decide) (by decide)) (phS hfph0 g (by decide))) (fun s16 h17 => ?_)
      have g18 : Rl T kw_M1 S0 0 0 T s16 := Rltrans g h17 (by decide +kernel)
      have f19 : In 1 60 (sI s16 57 46) := In_fr57 h17 h_x0 (by decide +kernel) (In_cell e2 q6)
      exact t_M_endFamiliesOf_B30 (Rlweak g18 (by decide +kernel) (by decide) (by decide)) hk2 hm2 h_x0 (In_w q5 (by decide) (by decide)) (In_w f19 (by decide) (by decide)) (Int.le_trans hfph0 (by decide))
    · exact t_M_endFamiliesOf_B30 (Rlweak g (by decide +kernel) (by decide) (by decide)) hk2 hm2 h_x0 (In_w q5 (by decide) (by decide)) (In_w (In_cell e2 q6) (by decide) (by decide)) (Int.le_trans hfph0 (by decide))
theorem t_M_endFamiliesOf_L2 {T : Nat → Nat} {S0 : AS} (hfph0 : Ph S0 ≤ 1180) : ∀ (n : Nat) (S : AS) (x0 : Option Nat) (x1 : Int32) (x2 : Int32), Rl T kw_M1 S0 0 0 T S → Tx T 100 x0 → In 0 60 x2 → (60 + 1 : Int) ≤ x2.toInt + (n : Int) → Ho (f_M_endFamiliesOf_L2  n S x0 x1 x2) (fun q => Rl T kw_M1 S0 0 0 T q) := by
  intro n
  induction n with
  | zero =>
    intro S x0 x1 x2 g h_x0 h_x2 hm
    exact absurd hm (by have := h_x2.2; omega)
  | succ n ih =>
    intro S x0 x1 x2 g h_x0 h_x2 hm
    exact t_M_endFamiliesOf_C2 g  (fun S' z0 z1 z2 g' a_h_x0 a_h_x2 am => ih S' z0 z1 z2 g' a_h_x0 a_h_x2 am) hm h_x0 h_x2 hfph0
theorem t_M_endFamiliesOf {T : Nat → Nat} {S : AS} (hT : TI T S) {a0 : Option Nat} {a1 : Int32} (h_a0 : Tx T 100 a0) (hfph0 : Ph S ≤ 1180) : Ho (f_M_endFamiliesOf  S a0 a1) (fun q => Rl T kw_M1 S 0 0 T q) := by
  have g0 := Rlrf hT
  unfold f_M_endFamiliesOf
  exact t_M_endFamiliesOf_L2  (Int.le_trans hfph0 (by decide)) kr_FU S a0 a1 (0 : Int32) (Rlweak g0 (by decide +kernel) (by decide) (by decide)) h_a0 (In_w (by decide : In 0 0 (0 : Int32)) (by decide) (by decide))  (by decide)
theorem t_M_endSession_B65 {T : Nat → Nat} {S0 S : AS} (g : Rl T kw_M3 S0 0 0 T S) {x0 : Option Nat} {x1 : Int32} {x2 : Int32} {x3 : Int32} {k17 : AS → Option Nat → Int32 → Int32 → Int32 → Option (Int32 × AS)} {n17 : Nat} (hk17 : ∀ (S' : AS) (z0 : Option Nat) (z1 : Int32) (z2 : Int32) (z3 : Int32), Rl T kw_M3 S0 0 0 T S' → Tx T 100 z0 → In 0 59 z1 → In 0 60 z3 → (60 + 1 : Int) ≤ z3.toInt + (n17 : Int) → Ho (k17 S' z0 z1 z2 z3) (fun q => Rl T kw_M3 S0 0 0 T q.2 ∧ True)) (hm17 : (60 + 1 : Int) ≤ x3.toInt + ((n17 + 1 : Nat) : Int)) (h_x0 : Tx T 100 x0) (h_x1 : In 0 59 x1) (h_x3 : In 0 59 x3) (hfph0 : Ph S0 ≤ 1170) : Ho (f_M_endSession_B65 k17 S x0 x1 x2 x3) (fun q => Rl T kw_M3 S0 0 0 T q.2 ∧ True) := by
  unfold f_M_endSession_B65
  refine r_val ?_
  generalize ei1 : (x3 + (1 : Int32)) = i1
  have qi1 : In 1 60 i1 := by rw [← ei1]; exact (In_w (In_add h_x3 (by decide : In 1 1 (1 : Int32)) (by decide) (by decide)) (by decide) (by decide) : In 1 60 (x3 + (1 : Int32)))
  exact hk17 S x0 x1 x2 i1 (Rlweak g (by decide +kernel) (by decide) (by decide)) h_x0 (In_w h_x1 (by decide) (by decide)) (In_w qi1 (by decide) (by decide))  (by rw [← ei1, toInt_add1 h_x3 (by decide) (by decide)]; omega)
theorem t_M_endSession_C17 {T : Nat → Nat} {S0 S : AS} (g : Rl T kw_M3 S0 0 0 T S) {x0 : Option Nat} {x1 : Int32} {x2 : Int32} {x3 : Int32} {k17 : AS → Option Nat → Int32 → Int32 → Int32 → Option (Int32 × AS)} {n17 : Nat} (hk17 : ∀ (S' : AS) (z0 : Option Nat) (z1 : Int32) (z2 : Int32) (z3 : Int32), Rl T kw_M3 S0 0 0 T S' → Tx T 100 z0 → In 0 59 z1 → In 0 60 z3 → (60 + 1 : Int) ≤ z3.toInt + (n17 : Int) → Ho (k17 S' z0 z1 z2 z3) (fun q => Rl T kw_M3 S0 0 0 T q.2 ∧ True)) (hm17 : (60 + 1 : Int) ≤ x3.toInt + ((n17 + 1 : Nat) : Int)) (h_x0 : Tx T 100 x0) (h_x1 : In 0 59 x1) (h_x3 : In 0 60 x3) (hfph0 : Ph S0 ≤ 1170) : Ho (f_M_endSession_C17 k17 S x0 x1 x2 x3) (fun q => Rl T kw_M3 S0 0 0 T q.2 ∧ True) := by
  unfold f_M_endSession_C17
  refine r_gIs g.1 h_x0 rfl (p := 57) rfl (fun v2 b1 e2 => ?_)
  have q3 : In 0 60 v2 := b1 _ _ rfl
  refine r_if (fun c4 => ?_) (fun c4 => ?_)
  · refine r_rv g.1 h_x0 rfl ?_
    refine r_bind (t_M_endFamiliesOf g.1 h_x0 (phS hfph0 g (by decide))) (fun s5 h6 => ?_)
    have g7 : Rl T kw_M3 S0 0 0 T s5 := Rltrans g h6 (by decide +kernel)
    exact r_some ⟨(Rlweak g7 (by decide +kernel) (by decide) (by decide)), trivial⟩
  · have q8 : In 0 59 x3 := In_w (In_lt1 (Int32.not_le.mp c4) h_x3 q3) (by decide) (by decide)
    have q9 : In 1 60 v2 := In_w (In_lt2 (Int32.not_le.mp c4) h_x3 q3) (by decide) (by decide)
    refine r_gR g.1 h_x0 rfl rfl (fun v5 h10 => ?_)
    refine r_aIs g.1 h10 rfl (p := 89) rfl rfl (In_w q8 (by decide) (by decide) : In 0 59 x3) (by decide) (fun v6 b11 e12 => ?_)
    have q13 : In 0 1 v6 := b11 _ _ rfl
    refine r_if (fun c14 => ?_) (fun c14 => ?_)
    · have q15 : In 0 0 v6 := In_w (In_eq c14 (by decide : In 0 0 (0 : Int32))) (by decide) (by decide)
      exact t_M_endSession_B65 (Rlweak g (by decide +kernel) (by decide) (by decide)) hk17 hm17 h_x0 (In_w h_x1 (by decide) (by decide)) (In_w q8 (by decide) (by decide)) (Int.le_trans hfph0 (by decide))
    · have q16 : In 1 1 v6 := In_w (In_neL c14 q13 (by decide)) (by decide) (by decide)
      refine r_gR g.1 h_x0 rfl rfl (fun v7 h17 => ?_)
      refine r_aIs g.1 h17 rfl (p := 88) rfl rfl (In_w q8 (by decide) (by decide) : In 0 59 x3) (by decide) (fun v8 b18 e19 => ?_)
      have q20 : In (-1) 59 v8 := b18 _ _ rfl
      refine r_if (fun c21 => ?_) (fun c21 => ?_)
      · have q22 : In 0 59 v8 := In_w (In_eq c21 h_x1) (by decide) (by decide)
        refine r_gR g.1 h_x0 rfl rfl (fun v9 h23 => ?_)
        refine r_kill (w' := kw_M3) g h23 (by decide) h_x0 (In_w q8 (by decide) (by decide)) (In_cell e12 q16) (phS hfph0 g (by decide)) (by decide +kernel) (fun s26 g27 => ?_)
        refine r_rv g27.1 h_x0 rfl ?_
        refine r_bind (t_M_endFamiliesOf g27.1 h_x0 (phS hfph0 g27 (by decide))) (fun s28 h29 => ?_)
        have g30 : Rl T kw_M3 S0 0 0 T s28 := Rltrans g27 h29 (by decide +kernel)
        refine r_val ?_
        generalize ei15 : (x2 + (1 : Int32)) = i15
        exact t_M_endSession_B65 (Rlweak g30 (by decide +kernel) (by decide) (by decide)) hk17 hm17 h_x0 (In_w h_x1 (by decide) (by decide)) (In_w q8 (by decide) (by decide)) (Int.le_trans hfph0 (by decide))
      · exact t_M_endSession_B65 (Rlweak g (by decide +kernel) (by decide) (by decide)) hk17 hm17 h_x0 (In_w h_x1 (by decide) (by decide)) (In_w q8 (by decide) (by decide)) (Int.le_trans hfph0 (by decide))
theorem t_M_endSession_L17 {T : Nat → Nat} {S0 : AS} (hfph0 : Ph S0 ≤ 1170) : ∀ (n : Nat) (S : AS) (x0 : Option Nat) (x1 : Int32) (x2 : Int32) (x3 : Int32), Rl T kw_M3 S0 0 0 T S → Tx T 100 x0 → In 0 59 x1 → In 0 60 x3 → (60 + 1 : Int) ≤ x3.toInt + (n : Int) → Ho (f_M_endSession_L17  n S x0 x1 x2 x3) (fun q => Rl T kw_M3 S0 0 0 T q.2 ∧ True) := by
  intro n
  induction n with
  | zero =>
    intro S x0 x1 x2 x3 g h_x0 h_x1 h_x3 hm
    exact absurd hm (by have := h_x3.2; omega)
  | succ n ih =>
    intro S x0 x1 x2 x3 g h_x0 h_x1 h_x3 hm
    exact t_M_endSession_C17 g  (fun S' z0 z1 z2 z3 g' a_h_x0 a_h_x1 a_h_x3 am => ih S' z0 z1 z2 z3 g' a_h_x0 a_h_x1 a_h_x3 am) hm h_x0 h_x1 h_x3 hfph0
theorem t_M_endSession {T : Nat → Nat} {S : AS} (hT : TI T S) {a0 : Option Nat} {a1 : Int32} (h_a0 : Tx T 100 a0) (h_a1 : In 0 59 a1) (hx_89_a1 : In 1 1 (sI S 89 a1.toNatClampNeg)) (hfph0 : Ph S ≤ 1170) : Ho (f_M_endSession  S a0 a1) (fun q => Rl T kw_M3 S 0 0 T q.2 ∧ True) := by
  have g0 := Rlrf hT
  unfold f_M_endSession
  refine r_gR g0.1 h_a0 rfl rfl (fun v16 h1 => ?_)
  refine r_kill (w' := kw_M2) g0 h1 (by decide) h_a0 (In_w h_a1 (by decide) (by decide)) hx_89_a1 (phS hfph0 g0 (by decide)) (by decide +kernel) (fun s4 g5 => ?_)
  exact t_M_endSession_L17  (Int.le_trans hfph0 (by decide)) kr_FU s4 a0 a1 (1 : Int32) (0 : Int32) (Rlweak g5 (by decide +kernel) (by decide) (by decide)) h_a0 (In_w h_a1 (by decide) (by decide)) (In_w (by decide : In 0 0 (0 : Int32)) (by decide) (by decide))  (by decide)
theorem t_M_pass_B198_5c0 {T : Nat → Nat} {S0 S : AS} (g : Rl T kw_M9 S0 0 0 T S) {x0 : Option Nat} {x1 : Int32} {x4 : Int32} {x5 : Int32} {y0 : Int32} {k45 : AS → Option Nat → Int32 → Int32 → Int32 → Option (Int32 × AS)} {n45 : Nat} (hk45 : ∀ (S' : AS) (z0 : Option Nat) (z1 : Int32) (z2 : Int32) (z3 : Int32), Rl T kw_M9 S0 0 0 T S' → Tx T 100 z0 → In 1 600 z1 → In 0 600 z3 → (600 + 1 : Int) ≤ z3.toInt + (n45 : Int) → Ho (k45 S' z0 z1 z2 z3) (fun q => Rl T kw_M9 S0 0 0 T q.2 ∧ True)) (hm45 : (600 + 1 : Int) ≤ x4.toInt + ((n45 + 1 : Nat) : Int)) {k121 : AS → Option Nat → Int32 → Int32 → Int32 → Int32 → Option (Int32 × AS)} {n121 : Nat} (hk121 : ∀ (S' : AS) (z0 : Option Nat) (z1 : Int32) (z2 : Int32) (z3 : Int32) (z4 : Int32), Rl T kw_M9 S0 0 0 T S' → Tx T 100 z0 → In 1 600 z1 → In 0 599 z3 → In 0 60 z4 → (600 + 1 : Int) ≤ z3.toInt + ((n45 + 1 : Nat) : Int) → (60 + 1 : Int) ≤ z4.toInt + (n121 : Int) → Ho (k121 S' z0 z1 z2 z3 z4) (fun q => Rl T kw_M9 S0 0 0 T q.2 ∧ True)) (hm121 : (60 + 1 : Int) ≤ x5.toInt + ((n121 + 1 : Nat) : Int)) (h_x0 : Tx T 100 x0) (h_x1 : In 1 600 x1) (h_x4 : In 0 599 x4) (h_x5 : In 0 59 x5) (hx_57_30 : In 1 60 (sI S 57 30)) (hx_89_x5 : In 0 1 (sI S 89 x5.toNatClampNeg)) (hfph0 : Ph S0 ≤ 1100) : Ho (f_M_pass_B198 k45 k121 S x0 x1 x4 x5 y0 (0 : Int32)) (fun q => Rl T kw_M9 S0 0 0 T q.2 ∧ True) := by
  unfold f_M_pass_B198
  refine r_val ?_
  generalize ei1 : (y0 + (0 : Int32)) = i1
  refine r_val ?_
  generalize ei2 : (x5 + (1 : Int32)) = i2
  have qi2 : In 1 60 i2 := by rw [← ei2]; exact (In_w (In_add h_x5 (by decide : In 1 1 (1 : Int32)) (by decide) (by decide)) (by decide) (by decide) : In 1 60 (x5 + (1 : Int32)))
  exact hk121 S x0 x1 i1 x4 i2 (Rlweak g (by decide +kernel) (by decide) (by decide)) h_x0 (In_w h_x1 (by decide) (by decide)) (In_w h_x4 (by decide) (by decide)) (In_w qi2 (by decide) (by decide)) hm45 (by rw [← ei2, toInt_add1 h_x5 (by decide) (by decide)]; omega)
theorem t_M_pass_B198 {T : Nat → Nat} {S0 S : AS} (g : Rl T kw_M9 S0 0 0 T S) {x0 : Option Nat} {x1 : Int32} {x4 : Int32} {x5 : Int32} {y0 : Int32} {y1 : Int32} {k45 : AS → Option Nat → Int32 → Int32 → Int32 → Option (Int32 × AS)} {n45 : Nat} (hk45 : ∀ (S' : AS) (z0 : Option Nat) (z1 : Int32) (z2 : Int32) (z3 : Int32), Rl T kw_M9 S0 0 0 T S' → Tx T 100 z0 → In 1 600 z1 → In 0 600 z3 → (600 + 1 : Int) ≤ z3.toInt + (n45 : Int) → Ho (k45 S' z0 z1 z2 z3) (fun q => Rl T kw_M9 S0 0 0 T q.2 ∧ True)) (hm45 : (600 + 1 : Int) ≤ x4.toInt + ((n45 + 1 : Nat) : Int)) {k121 : AS → Option Nat → Int32 → Int32 → Int32 → Int32 → Option (Int32 × AS)} {n121 : Nat} (hk121 : ∀ (S' : AS) (z0 : Option Nat) (z1 : Int32) (z2 : Int32) (z3 : Int32) (z4 : Int32), Rl T kw_M9 S0 0 0 T S' → Tx T 100 z0 → In 1 600 z1 → In 0 599 z3 → In 0 60 z4 → (600 + 1 : Int) ≤ z3.toInt + ((n45 + 1 : Nat) : Int) → (60 + 1 : Int) ≤ z4.toInt + (n121 : Int) → Ho (k121 S' z0 z1 z2 z3 z4) (fun q => Rl T kw_M9 S0 0 0 T q.2 ∧ True)) (hm121 : (60 + 1 : Int) ≤ x5.toInt + ((n121 + 1 : Nat) : Int)) (h_x0 : Tx T 100 x0) (h_x1 : In 1 600 x1) (h_x4 : In 0 599 x4) (h_x5 : In 0 59 x5) (hx_57_30 : In 1 60 (sI S 57 30)) (hfph0 : Ph S0 ≤ 1100) : Ho (f_M_pass_B198 k45 k121 S x0 x1 x4 x5 y0 y1) (fun q => Rl T kw_M9 S0 0 0 T q.2 ∧ True) := by
  unfold f_M_pass_B198
  refine r_val ?_
  generalize ei1 : (y0 + y1) = i1
  refine r_val ?_
  generalize ei2 : (x5 + (1 : Int32)) = i2
  have qi2 : In 1 60 i2 := by rw [← ei2]; exact (In_w (In_add h_x5 (by decide : In 1 1 (1 : Int32)) (by decide) (by decide)) (by decide) (by decide) : In 1 60 (x5 + (1 : Int32)))
  exact hk121 S x0 x1 i1 x4 i2 (Rlweak g (by decide +kernel) (by decide) (by decide)) h_x0 (In_w h_x1 (by decide) (by decide)) (In_w h_x4 (by decide) (by decide)) (In_w qi2 (by decide) (by decide)) hm45 (by rw [← ei2, toInt_add1 h_x5 (by decide) (by decide)]; omega)
theorem t_M_pass_B180_5c0 {T : Nat → Nat} {S0 S : AS} (g : Rl T kw_M9 S0 0 0 T S) {x0 : Option Nat} {x1 : Int32} {x3 : Int32} {x4 : Int32} {x5 : Int32} {k45 : AS → Option Nat → Int32 → Int32 → Int32 → Option (Int32 × AS)} {n45 : Nat} (hk45 : ∀ (S' : AS) (z0 : Option Nat) (z1 : Int32) (z2 : Int32) (z3 : Int32), Rl T kw_M9 S0 0 0 T S' → Tx T 100 z0 → In 1 600 z1 → In 0 600 z3 → (600 + 1 : Int) ≤ z3.toInt + (n45 : Int) → Ho (k45 S' z0 z1 z2 z3) (fun q => Rl T kw_M9 S0 0 0 T q.2 ∧ True)) (hm45 : (600 + 1 : Int) ≤ x4.toInt + ((n45 + 1 : Nat) : Int)) {k121 : AS → Option Nat → Int32 → Int32 → Int32 → Int32 → Option (Int32 × AS)} {n121 : Nat} (hk121 : ∀ (S' : AS) (z0 : Option Nat) (z1 : Int32) (z2 : Int32) (z3 : Int32) (z4 : Int32), Rl T kw_M9 S0 0 0 T S' → Tx T 100 z0 → In 1 600 z1 → In 0 599 z3 → In 0 60 z4 → (600 + 1 : Int) ≤ z3.toInt + ((n45 + 1 : Nat) : Int) → (60 + 1 : Int) ≤ z4.toInt + (n121 : Int) → Ho (k121 S' z0 z1 z2 z3 z4) (fun q => Rl T kw_M9 S0 0 0 T q.2 ∧ True)) (hm121 : (60 + 1 : Int) ≤ x5.toInt + ((n121 + 1 : Nat) : Int)) (h_x0 : Tx T 100 x0) (h_x1 : In 1 600 x1) (h_x4 : In 0 599 x4) (h_x5 : In 0 59 x5) (hx_57_30 : In 1 60 (sI S 57 30)) (hx_89_x5 : In 0 1 (sI S 89 x5.toNatClampNeg)) (hfph0 : Ph S0 ≤ 1100) : Ho (f_M_pass_B180 k45 k121 S x0 x1 x3 x4 x5 (0 : Int32)) (fun q => Rl T kw_M9 S0 0 0 T q.2 ∧ True) := by
  unfold f_M_pass_B180
  refine r_ifT (by decide) ?_
  exact t_M_pass_B198_5c0 (Rlweak g (by decide +kernel) (by decide) (by decide)) hk45 hm45 hk121 hm121 h_x0 (In_w h_x1 (by decide) (by decide)) (In_w h_x4 (by decide) (by decide)) (In_w h_x5 (by decide) (by decide)) (In_w hx_57_30 (by decide) (by decide)) (In_w hx_89_x5 (by decide) (by decide)) (Int.le_trans hfph0 (by decide))
theorem t_M_pass_B180_5c1 {T : Nat → Nat} {S0 S : AS} (g : Rl T kw_M9 S0 0 0 T S) {x0 : Option Nat} {x1 : Int32} {x3 : Int32} {x4 : Int32} {x5 : Int32} {k45 : AS → Option Nat → Int32 → Int32 → Int32 → Option (Int32 × AS)} {n45 : Nat} (hk45 : ∀ (S' : AS) (z0 : Option Nat) (z1 : Int32) (z2 : Int32) (z3 : Int32), Rl T kw_M9 S0 0 0 T S' → Tx T 100 z0 → In 1 600 z1 → In 0 600 z3 → (600 + 1 : Int) ≤ z3.toInt + (n45 : Int) → Ho (k45 S' z0 z1 z2 z3) (fun q => Rl T kw_M9 S0 0 0 T q.2 ∧ True)) (hm45 : (600 + 1 : Int) ≤ x4.toInt + ((n45 + 1 : Nat) : Int)) {k121 : AS → Option Nat → Int32 → Int32 → Int32 → Int32 → Option (Int32 × AS)} {n121 : Nat} (hk121 : ∀ (S' : AS) (z0 : Option Nat) (z1 : Int32) (z2 : Int32) (z3 : Int32) (z4 : Int32), Rl T kw_M9 S0 0 0 T S' → Tx T 100 z0 → In 1 600 z1 → In 0 599 z3 → In 0 60 z4 → (600 + 1 : Int) ≤ z3.toInt + ((n45 + 1 : Nat) : Int) → (60 + 1 : Int) ≤ z4.toInt + (n121 : Int) → Ho (k121 S' z0 z1 z2 z3 z4) (fun q => Rl T kw_M9 S0 0 0 T q.2 ∧ True)) (hm121 : (60 + 1 : Int) ≤ x5.toInt + ((n121 + 1 : Nat) : Int)) (h_x0 : Tx T 100 x0) (h_x1 : In 1 600 x1) (h_x4 : In 0 599 x4) (h_x5 : In 0 59 x5) (hx_57_30 : In 1 60 (sI S 57 30)) (hx_89_x5 : In 1 1 (sI S 89 x5.toNatClampNeg)) (hfph0 : Ph S0 ≤ 1100) : Ho (f_M_pass_B180 k45 k121 S x0 x1 x3 x4 x5 (1 : Int32)) (fun q => Rl T kw_M9 S0 0 0 T q.2 ∧ True) := by
  unfold f_M_pass_B180
  refine r_ifF (by decide) ?_
  refine r_rv g.1 h_x0 rfl ?_
  refine r_b2 (t_M_endSession g.1 h_x0 (In_w h_x5 (by decide) (by decide)) (In_w hx_89_x5 (by decide) (by decide)) (phS hfph0 g (by decide))) (fun v5 s2 h1 => ?_)
  obtain ⟨g3, h1r⟩ := h1
  have g4 : Rl T kw_M9 S0 0 0 T s2 := Rltrans g g3 (by decide +kernel)
  have f5 : In 1 60 (sI s2 57 30) := In_fr57 g3 h_x0 (by decide +kernel) hx_57_30
  exact t_M_pass_B198 (Rlweak g4 (by decide +kernel) (by decide) (by decide)) hk45 hm45 hk121 hm121 h_x0 (In_w h_x1 (by decide) (by decide)) (In_w h_x4 (by decide) (by decide)) (In_w h_x5 (by decide) (by decide)) (In_w f5 (by decide) (by decide)) (Int.le_trans hfph0 (by decide))
theorem t_M_pass_B175 {T : Nat → Nat} {S0 S : AS} (g : Rl T kw_M9 S0 0 0 T S) {x0 : Option Nat} {x1 : Int32} {x3 : Int32} {x4 : Int32} {x5 : Int32} {k45 : AS → Option Nat → Int32 → Int32 → Int32 → Option (Int32 × AS)} {n45 : Nat} (hk45 : ∀ (S' : AS) (z0 : Option Nat) (z1 : Int32) (z2 : Int32) (z3 : Int32), Rl T kw_M9 S0 0 0 T S' → Tx T 100 z0 → In 1 600 z1 → In 0 600 z3 → (600 + 1 : Int) ≤ z3.toInt + (n45 : Int) → Ho (k45 S' z0 z1 z2 z3) (fun q => Rl T kw_M9 S0 0 0 T q.2 ∧ True)) (hm45 : (600 + 1 : Int) ≤ x4.toInt + ((n45 + 1 : Nat) : Int)) {k121 : AS → Option Nat → Int32 → Int32 → Int32 → Int32 → Option (Int32 × AS)} {n121 : Nat} (hk121 : ∀ (S' : AS) (z0 : Option Nat) (z1 : Int32) (z2 : Int32) (z3 : Int32) (z4 : Int32), Rl T kw_M9 S0 0 0 T S' → Tx T 100 z0 → In 1 600 z1 → In 0 599 z3 → In 0 60 z4 → (600 + 1 : Int) ≤ z3.toInt + ((n45 + 1 : Nat) : Int) → (60 + 1 : Int) ≤ z4.toInt + (n121 : Int) → Ho (k121 S' z0 z1 z2 z3 z4) (fun q => Rl T kw_M9 S0 0 0 T q.2 ∧ True)) (hm121 : (60 + 1 : Int) ≤ x5.toInt + ((n121 + 1 : Nat) : Int)) (h_x0 : Tx T 100 x0) (h_x1 : In 1 600 x1) (h_x4 : In 0 599 x4) (h_x5 : In 0 59 x5) (hx_57_30 : In 1 60 (sI S 57 30)) (hx_89_x5 : In 1 1 (sI S 89 x5.toNatClampNeg)) (hfph0 : Ph S0 ≤ 1100) : Ho (f_M_pass_B175 k45 k121 S x0 x1 x3 x4 x5) (fun q => Rl T kw_M9 S0 0 0 T q.2 ∧ True) := by
  unfold f_M_pass_B175
  exact t_M_pass_B180_5c1 (Rlweak g (by decide +kernel) (by decide) (by decide)) hk45 hm45 hk121 hm121 h_x0 (In_w h_x1 (by decide) (by decide)) (In_w h_x4 (by decide) (by decide)) (In_w h_x5 (by decide) (by decide)) (In_w hx_57_30 (by decide) (by decide)) (In_w hx_89_x5 (by decide) (by decide)) (Int.le_trans hfph0 (by decide))
theorem t_M_pass_B179 {T : Nat → Nat} {S0 S : AS} (g : Rl T kw_M9 S0 0 0 T S) {x0 : Option Nat} {x1 : Int32} {x3 : Int32} {x4 : Int32} {x5 : Int32} {k45 : AS → Option Nat → Int32 → Int32 → Int32 → Option (Int32 × AS)} {n45 : Nat} (hk45 : ∀ (S' : AS) (z0 : Option Nat) (z1 : Int32) (z2 : Int32) (z3 : Int32), Rl T kw_M9 S0 0 0 T S' → Tx T 100 z0 → In 1 600 z1 → In 0 600 z3 → (600 + 1 : Int) ≤ z3.toInt + (n45 : Int) → Ho (k45 S' z0 z1 z2 z3) (fun q => Rl T kw_M9 S0 0 0 T q.2 ∧ True)) (hm45 : (600 + 1 : Int) ≤ x4.toInt + ((n45 + 1 : Nat) : Int)) {k121 : AS → Option Nat → Int32 → Int32 → Int32 → Int32 → Option (Int32 × AS)} {n121 : Nat} (hk121 : ∀ (S' : AS) (z0 : Option Nat) (z1 : Int32) (z2 : Int32) (z3 : Int32) (z4 : Int32), Rl T kw_M9 S0 0 0 T S' → Tx T 100 z0 → In 1 600 z1 → In 0 599 z3 → In 0 60 z4 → (600 + 1 : Int) ≤ z3.toInt + ((n45 + 1 : Nat) : Int) → (60 + 1 : Int) ≤ z4.toInt + (n121 : Int) → Ho (k121 S' z0 z1 z2 z3 z4) (fun q => Rl T kw_M9 S0 0 0 T q.2 ∧ True)) (hm121 : (60 + 1 : Int) ≤ x5.toInt + ((n121 + 1 : Nat) : Int)) (h_x0 : Tx T 100 x0) (h_x1 : In 1 600 x1) (h_x4 : In 0 599 x4) (h_x5 : In 0 59 x5) (hx_57_30 : In 1 60 (sI S 57 30)) (hx_89_x5 : In 0 1 (sI S 89 x5.toNatClampNeg)) (hfph0 : Ph S0 ≤ 1100) : Ho (f_M_pass_B179 k45 k121 S x0 x1 x3 x4 x5) (fun q => Rl T kw_M9 S0 0 0 T q.2 ∧ True) := by
  unfold f_M_pass_B179
  exact t_M_pass_B180_5c0 (Rlweak g (by decide +kernel) (by decide) (by decide)) hk45 hm45 hk121 hm121 h_x0 (In_w h_x1 (by decide) (by decide)) (In_w h_x4 (by decide) (by decide)) (In_w h_x5 (by decide) (by decide)) (In_w hx_57_30 (by decide) (by decide)) (In_w hx_89_x5 (by decide) (by decide)) (Int.le_trans hfph0 (by decide))
theorem t_M_pass_C121 {T : Nat → Nat} {S0 S : AS} (g : Rl T kw_M9 S0 0 0 T S) {x0 : Option Nat} {x1 : Int32} {x3 : Int32} {x4 : Int32} {x5 : Int32} {k45 : AS → Option Nat → Int32 → Int32 → Int32 → Option (Int32 × AS)} {n45 : Nat} (hk45 : ∀ (S' : AS) (z0 : Option Nat) (z1 : Int32) (z2 : Int32) (z3 : Int32), Rl T kw_M9 S0 0 0 T S' → Tx T 100 z0 → In 1 600 z1 → In 0 600 z3 → (600 + 1 : Int) ≤ z3.toInt + (n45 : Int) → Ho (k45 S' z0 z1 z2 z3) (fun q => Rl T kw_M9 S0 0 0 T q.2 ∧ True)) (hm45 : (600 + 1 : Int) ≤ x4.toInt + ((n45 + 1 : Nat) : Int)) {k121 : AS → Option Nat → Int32 → Int32 → Int32 → Int32 → Option (Int32 × AS)} {n121 : Nat} (hk121 : ∀ (S' : AS) (z0 : Option Nat) (z1 : Int32) (z2 : Int32) (z3 : Int32) (z4 : Int32), Rl T kw_M9 S0 0 0 T S' → Tx T 100 z0 → In 1 600 z1 → In 0 599 z3 → In 0 60 z4 → (600 + 1 : Int) ≤ z3.toInt + ((n45 + 1 : Nat) : Int) → (60 + 1 : Int) ≤ z4.toInt + (n121 : Int) → Ho (k121 S' z0 z1 z2 z3 z4) (fun q => Rl T kw_M9 S0 0 0 T q.2 ∧ True)) (hm121 : (60 + 1 : Int) ≤ x5.toInt + ((n121 + 1 : Nat) : Int)) (h_x0 : Tx T 100 x0) (h_x1 : In 1 600 x1) (h_x4 : In 0 599 x4) (h_x5 : In 0 60 x5) (hfph0 : Ph S0 ≤ 1100) : Ho (f_M_pass_C121 k45 k121 S x0 x1 x3 x4 x5) (fun q => Rl T kw_M9 S0 0 0 T q.2 ∧ True) := by
  unfold f_M_pass_C121
  refine r_gIs g.1 h_x0 rfl (p := 57) rfl (fun v6 b1 e2 => ?_)
  have q3 : In 0 60 v6 := b1 _ _ rfl
  refine r_if (fun c4 => ?_) (fun c4 => ?_)
  · refine r_val ?_
    generalize ei7 : (x4 + (1 : Int32)) = i7
    have qi7 : In 1 600 i7 := by rw [← ei7]; exact (In_w (In_add h_x4 (by decide : In 1 1 (1 : Int32)) (by decide) (by decide)) (by decide) (by decide) : In 1 600 (x4 + (1 : Int32)))
    exact hk45 S x0 x1 x3 i7 (Rlweak g (by decide +kernel) (by decide) (by decide)) h_x0 (In_w h_x1 (by decide) (by decide)) (In_w qi7 (by decide) (by decide))  (by rw [← ei7, toInt_add1 h_x4 (by decide) (by decide)]; omega)
  · have q5 : In 0 59 x5 := In_w (In_lt1 (Int32.not_le.mp c4) h_x5 q3) (by decide) (by decide)
    have q6 : In 1 60 v6 := In_w (In_lt2 (Int32.not_le.mp c4) h_x5 q3) (by decide) (by decide)
    refine r_gR g.1 h_x0 rfl rfl (fun v8 h7 => ?_)
    refine r_aIs g.1 h7 rfl (p := 89) rfl rfl (In_w q5 (by decide) (by decide) : In 0 59 x5) (by decide) (fun v9 b8 e9 => ?_)
    have q10 : In 0 1 v9 := b8 _ _ rfl
    refine r_if (fun c11 => ?_) (fun c11 => ?_)
    · have q12 : In 0 0 v9 := In_w (In_eq c11 (by decide : In 0 0 (0 : Int32))) (by decide) (by decide)
      exact t_M_pass_B179 (Rlweak g (by decide +kernel) (by decide) (by decide)) hk45 hm45 hk121 hm121 h_x0 (In_w h_x1 (by decide) (by decide)) (In_w h_x4 (by decide) (by decide)) (In_w q5 (by decide) (by decide)) (In_w (In_cell e2 q6) (by decide) (by decide)) (In_w (In_cell e9 q12) (by decide) (by decide)) (Int.le_trans hfph0 (by decide))
    · have q13 : In 1 1 v9 := In_w (In_neL c11 q10 (by decide)) (by decide) (by decide)
      refine r_gIs g.1 h_x0 rfl (p := 57) rfl (fun v10 b14 e15 => ?_)
      refine r_gR g.1 h_x0 rfl rfl (fun v11 h16 => ?_)
      refine r_aIs g.1 h16 rfl (p := 87) rfl rfl (In_w q5 (by decide) (by decide) : In 0 59 x5) (by decide) (fun v12 b17 e18 => ?_)
      refine r_if (fun c19 => ?_) (fun c19 => ?_)
      · exact t_M_pass_B175 (Rlweak g (by decide +kernel) (by decide) (by decide)) hk45 hm45 hk121 hm121 h_x0 (In_w h_x1 (by decide) (by decide)) (In_w h_x4 (by decide) (by decide)) (In_w q5 (by decide) (by decide)) (In_w (In_cell e2 q6) (by decide) (by decide)) (In_w (In_cell e9 q13) (by decide) (by decide)) (Int.le_trans hfph0 (by decide))
      · refine r_gIs g.1 h_x0 rfl (p := 57) rfl (fun v13 b20 e21 => ?_)
        refine r_gR g.1 h_x0 rfl rfl (fun v14 h22 => ?_)
        refine r_aIs g.1 h22 rfl (p := 86) rfl rfl (In_w q5 (by decide) (by decide) : In 0 59 x5) (by decide) (fun v15 b23 e24 => ?_)
        refine r_if (fun c25 => ?_) (fun c25 => ?_)
        · exact t_M_pass_B179 (Rlweak g (by decide +kernel) (by decide) (by decide)) hk45 hm45 hk121 hm121 h_x0 (In_w h_x1 (by decide) (by decide)) (In_w h_x4 (by decide) (by decide)) (In_w q5 (by decide) (by decide)) (In_w (In_cell e2 q6) (by decide) (by decide)) (In_w (In_cell e9 q13) (by decide) (by decide)) (Int.le_trans hfph0 (by decide))
        · exact t_M_pass_B175 (Rlweak g (by decide +kernel) (by decide) (by decide)) hk45 hm45 hk121 hm121 h_x0 (In_w h_x1 (by decide) (by decide)) (In_w h_x4 (by decide) (by decide)) (In_w q5 (by decide) (by decide)) (In_w (In_cell e2 q6) (by decide) (by decide)) (In_w (In_cell e9 q13) (by decide) (by decide)) (Int.le_trans hfph0 (by decide))
theorem t_M_pass_L121 {T : Nat → Nat} {S0 : AS} {k45 : AS → Option Nat → Int32 → Int32 → Int32 → Option (Int32 × AS)} {n45 : Nat} (hk45 : ∀ (S' : AS) (z0 : Option Nat) (z1 : Int32) (z2 : Int32) (z3 : Int32), Rl T kw_M9 S0 0 0 T S' → Tx T 100 z0 → In 1 600 z1 → In 0 600 z3 → (600 + 1 : Int) ≤ z3.toInt + (n45 : Int) → Ho (k45 S' z0 z1 z2 z3) (fun q => Rl T kw_M9 S0 0 0 T q.2 ∧ True)) (hfph0 : Ph S0 ≤ 1100) : ∀ (n : Nat) (S : AS) (x0 : Option Nat) (x1 : Int32) (x3 : Int32) (x4 : Int32) (x5 : Int32), Rl T kw_M9 S0 0 0 T S → Tx T 100 x0 → In 1 600 x1 → In 0 599 x4 → In 0 60 x5 → (600 + 1 : Int) ≤ x4.toInt + ((n45 + 1 : Nat) : Int) → (60 + 1 : Int) ≤ x5.toInt + (n : Int) → Ho (f_M_pass_L121 k45 n S x0 x1 x3 x4 x5) (fun q => Rl T kw_M9 S0 0 0 T q.2 ∧ True) := by
  intro n
  induction n with
  | zero =>
    intro S x0 x1 x3 x4 x5 g h_x0 h_x1 h_x4 h_x5 hm45 hm
    exact absurd hm (by have := h_x5.2; omega)
  | succ n ih =>
    intro S x0 x1 x3 x4 x5 g h_x0 h_x1 h_x4 h_x5 hm45 hm
    exact t_M_pass_C121 g hk45 hm45 (fun S' z0 z1 z2 z3 z4 g' a_h_x0 a_h_x1 a_h_x4 a_h_x5 a_hm45 am => ih S' z0 z1 z2 z3 z4 g' a_h_x0 a_h_x1 a_h_x4 a_h_x5 a_hm45 am) hm h_x0 h_x1 h_x4 h_x5 hfph0
theorem t_M_pass_B118_w {T : Nat → Nat} {S0 S : AS} (g : Rl T kw_M9 S0 0 0 T S) {x0 : Option Nat} {x1 : Int32} {x3 : Int32} {x4 : Int32} {k45 : AS → Option Nat → Int32 → Int32 → Int32 → Option (Int32 × AS)} {n45 : Nat} (hk45 : ∀ (S' : AS) (z0 : Option Nat) (z1 : Int32) (z2 : Int32) (z3 : Int32), Rl T kw_M9 S0 0 0 T S' → Tx T 100 z0 → In 1 600 z1 → In 0 600 z3 → (600 + 1 : Int) ≤ z3.toInt + (n45 : Int) → Ho (k45 S' z0 z1 z2 z3) (fun q => Rl T kw_M9 S0 0 0 T q.2 ∧ True)) (hm45 : (600 + 1 : Int) ≤ x4.toInt + ((n45 + 1 : Nat) : Int)) (h_x0 : Tx T 100 x0) (h_x1 : In 1 600 x1) (h_x4 : In 0 599 x4) (hx_57_62 : In (-1) (-1) (sI S 57 62)) (hfph0 : Ph S0 ≤ 1100) : Ho (f_M_pass_B118 k45 S x0 x1 x3 x4) (fun q => Rl T kw_M9 S0 0 0 T q.2 ∧ True) := by
  unfold f_M_pass_B118
  exact t_M_pass_L121 hk45 (Int.le_trans hfph0 (by decide)) kr_FU S x0 x1 x3 x4 (0 : Int32) (Rlweak g (by decide +kernel) (by decide) (by decide)) h_x0 (In_w h_x1 (by decide) (by decide)) (In_w h_x4 (by decide) (by decide)) (In_w (by decide : In 0 0 (0 : Int32)) (by decide) (by decide)) hm45 (by decide)
theorem t_M_pass_B118 {T : Nat → Nat} {S0 S : AS} (g : Rl T kw_M9 S0 0 0 T S) {x0 : Option Nat} {x1 : Int32} {x3 : Int32} {x4 : Int32} {k45 : AS → Option Nat → Int32 → Int32 → Int32 → Option (Int32 × AS)} {n45 : Nat} (hk45 : ∀ (S' : AS) (z0 : Option Nat) (z1 : Int32) (z2 : Int32) (z3 : Int32), Rl T kw_M9 S0 0 0 T S' → Tx T 100 z0 → In 1 600 z1 → In 0 600 z3 → (600 + 1 : Int) ≤ z3.toInt + (n45 : Int) → Ho (k45 S' z0 z1 z2 z3) (fun q => Rl T kw_M9 S0 0 0 T q.2 ∧ True)) (hm45 : (600 + 1 : Int) ≤ x4.toInt + ((n45 + 1 : Nat) : Int)) (h_x0 : Tx T 100 x0) (h_x1 : In 1 600 x1) (h_x4 : In 0 599 x4) (hfph0 : Ph S0 ≤ 1100) : Ho (f_M_pass_B118 k45 S x0 x1 x3 x4) (fun q => Rl T kw_M9 S0 0 0 T q.2 ∧ True) := by
  unfold f_M_pass_B118
  exact t_M_pass_L121 hk45 (Int.le_trans hfph0 (by decide)) kr_FU S x0 x1 x3 x4 (0 : Int32) (Rlweak g (by decide +kernel) (by decide) (by decide)) h_x0 (In_w h_x1 (by decide) (by decide)) (In_w h_x4 (by decide) (by decide)) (In_w (by decide : In 0 0 (0 : Int32)) (by decide) (by decide)) hm45 (by decide)
theorem t_M_pass_C45 {T : Nat → Nat} {S0 S : AS} (g : Rl T kw_M9 S0 0 0 T S) {x0 : Option Nat} {x1 : Int32} {x3 : Int32} {x4 : Int32} {k45 : AS → Option Nat → Int32 → Int32 → Int32 → Option (Int32 × AS)} {n45 : Nat} (hk45 : ∀ (S' : AS) (z0 : Option Nat) (z1 : Int32) (z2 : Int32) (z3 : Int32), Rl T kw_M9 S0 0 0 T S' → Tx T 100 z0 → In 1 600 z1 → In 0 600 z3 → (600 + 1 : Int) ≤ z3.toInt + (n45 : Int) → Ho (k45 S' z0 z1 z2 z3) (fun q => Rl T kw_M9 S0 0 0 T q.2 ∧ True)) (hm45 : (600 + 1 : Int) ≤ x4.toInt + ((n45 + 1 : Nat) : Int)) (h_x0 : Tx T 100 x0) (h_x1 : In 1 600 x1) (h_x4 : In 0 600 x4) (hfph0 : Ph S0 ≤ 1100) : Ho (f_M_pass_C45 k45 S x0 x1 x3 x4) (fun q => Rl T kw_M9 S0 0 0 T q.2 ∧ True) := by
  unfold f_M_pass_C45
  refine r_if (fun c1 => ?_) (fun c1 => ?_)
  · have q2 : In 1 600 x4 := In_w (In_le2 c1 h_x1 h_x4) (by decide) (by decide)
    exact r_some ⟨(Rlweak g (by decide +kernel) (by decide) (by decide)), trivial⟩
  · have q3 : In 0 599 x4 := In_w (In_lt1 (Int32.not_le.mp c1) h_x4 h_x1) (by decide) (by decide)
    refine r_gIs g.1 h_x0 rfl (p := 57) rfl (fun v16 b4 e5 => ?_)
    refine r_pIs (w' := kw_M9) g h_x0 (fun _ _ q => by cases q) (by decide +kernel) (by unfold phc; decide) (fun s6 g7 e8 => ?_)
    refine r_gIs g7.1 h_x0 rfl (p := 57) rfl (fun v18 b9 e10 => ?_)
    have q11 : In (-1) 19 v18 := b9 _ _ rfl
    refine r_if (fun c12 => ?_) (fun c12 => ?_)
    · have q13 : In (-1) (-1) v18 := In_w (In_eq c12 (by decide : In (-1) (-1) (-1 : Int32))) (by decide) (by decide)
      exact t_M_pass_B118_w (Rlweak g7 (by decide +kernel) (by decide) (by decide)) hk45 hm45 h_x0 (In_w h_x1 (by decide) (by decide)) (In_w q3 (by decide) (by decide)) (In_w (In_cell e10 q13) (by decide) (by decide)) (Int.le_trans hfph0 (by decide))
    · have q14 : In 0 19 v18 := In_w (In_neL c12 q11 (by decide)) (by decide) (by decide)
      refine r_gIs g7.1 h_x0 rfl (p := 57) rfl (fun v19 b15 e16 => ?_)
      refine r_gIs g7.1 h_x0 rfl (p := 57) rfl (fun v20 b17 e18 => ?_)
      refine r_if (fun c19 => ?_) (fun c19 => ?_)
      · have q20 : In (-2147483648) 2147483646 v19 := In_w (In_lt1 c19 (In_top v19) (In_top v20)) (by decide) (by decide)
        have q21 : In (-2147483647) 2147483647 v20 := In_w (In_lt2 c19 (In_top v19) (In_top v20)) (by decide) (by decide)
        exact t_M_pass_B118 (Rlweak g7 (by decide +kernel) (by decide) (by decide)) hk45 hm45 h_x0 (In_w h_x1 (by decide) (by decide)) (In_w q3 (by decide) (by decide)) (Int.le_trans hfph0 (by decide))
      · refine r_gR g7.1 h_x0 rfl rfl (fun v21 h22 => ?_)
        refine r_gIs g7.1 h_x0 rfl (p := 57) rfl (fun v22 b23 e24 => ?_)
        have q25 : In 0 19 v22 := b23 _ _ rfl
        refine r_gIs g7.1 h_x0 rfl (p := 57) rfl (fun v23 b26 e27 => ?_)
        refine r_bIs (w' := kw_M9) g7 h22 rfl (p := 112) rfl rfl (In_w q25 (by decide) (by decide) : In 0 19 v22) (by decide) (fun _ _ _ q => by cases q) (fun _ => rfl) (by decide) (by decide +kernel) (fun _ => by unfold phc; omega) (fun s28 g29 e30 => ?_)
        have f31 : In 0 19 (sI s28 57 62) := In_ne e30 (by omega) (In_cell e10 q14)
        refine r_gIs g29.1 h_x0 rfl (p := 57) rfl (fun v25 b32 e33 => ?_)
        have q34 : In (-1) 19 v25 := b32 _ _ rfl
        have q35 : In 0 19 v25 := In_w (In_read e33 f31) (by decide) (by decide)
        refine r_pIs (w' := kw_M9) g29 h_x0 (fun _ _ q => by cases q; exact (In_w q35 (by decide) (by decide))) (by decide +kernel) (by unfold phc; decide) (fun s36 g37 e38 => ?_)
        have f39 : In 0 19 (sI s36 57 62) := In_ne e38 (by omega) (In_cell e33 q35)
        have f40 : In 0 19 (sI s36 57 61) := In_eqw e38 (In_w q35 (by decide) (by decide))
        refine r_sigw (w' := kw_M9) g37 h_x0 h_x0 h_x0 (In_w f39 (by decide) (by decide)) (phS hfph0 g37 (by decide)) (by decide +kernel) (fun s43 g44 => ?_)
        exact t_M_pass_B118 (Rlweak g44 (by decide +kernel) (by decide) (by decide)) hk45 hm45 h_x0 (In_w h_x1 (by decide) (by decide)) (In_w q3 (by decide) (by decide)) (Int.le_trans hfph0 (by decide))
theorem t_M_pass_L45 {T : Nat → Nat} {S0 : AS} (hfph0 : Ph S0 ≤ 1100) : ∀ (n : Nat) (S : AS) (x0 : Option Nat) (x1 : Int32) (x3 : Int32) (x4 : Int32), Rl T kw_M9 S0 0 0 T S → Tx T 100 x0 → In 1 600 x1 → In 0 600 x4 → (600 + 1 : Int) ≤ x4.toInt + (n : Int) → Ho (f_M_pass_L45  n S x0 x1 x3 x4) (fun q => Rl T kw_M9 S0 0 0 T q.2 ∧ True) := by
  intro n
  induction n with
  | zero =>
    intro S x0 x1 x3 x4 g h_x0 h_x1 h_x4 hm
    exact absurd hm (by have := h_x4.2; omega)
  | succ n ih =>
    intro S x0 x1 x3 x4 g h_x0 h_x1 h_x4 hm
    exact t_M_pass_C45 g  (fun S' z0 z1 z2 z3 g' a_h_x0 a_h_x1 a_h_x4 am => ih S' z0 z1 z2 z3 g' a_h_x0 a_h_x1 a_h_x4 am) hm h_x0 h_x1 h_x4 hfph0
theorem t_M_pass_B32_2t100_3c1_4c1 {T : Nat → Nat} {S0 S : AS} (g : Rl T [] S0 0 0 T S) {x0 : Option Nat} {x1 : Int32} {y0 : Option Nat} (h_x0 : Tx T 100 x0) (h_x1 : In 1 600 x1) (h_y0 : Tx T 100 y0) (hfph0 : Ph S0 ≤ 1100) : Ho (f_M_pass_B32  S x0 x1 y0 (1 : Int32) (1 : Int32)) (fun q => Rl T kw_M9 S0 0 0 T q.2 ∧ True) := by
  unfold f_M_pass_B32
  refine r_rv g.1 h_y0 rfl ?_
  refine r_mayBoth (w' := kw_M4) g h_y0 (by decide +kernel) (fun s1 g2 g2e c3 c4 => ?_) (fun s1 g2 g2e => ?_)
  · refine r_ifF (by decide) ?_
    exact t_M_pass_L45  (Int.le_trans hfph0 (by decide)) kr_FU s1 x0 x1 (0 : Int32) (0 : Int32) (Rlweak g2 (by decide +kernel) (by decide) (by decide)) h_x0 (In_w h_x1 (by decide) (by decide)) (In_w (by decide : In 0 0 (0 : Int32)) (by decide) (by decide))  (by decide)
  · refine r_ifT (by decide) ?_
    exact r_some ⟨(Rlweak g2 (by decide +kernel) (by decide) (by decide)), trivial⟩
theorem t_M_pass_B32_2t100_3c1_4c0 {T : Nat → Nat} {S0 S : AS} (g : Rl T [] S0 0 0 T S) {x0 : Option Nat} {x1 : Int32} {y0 : Option Nat} (h_x0 : Tx T 100 x0) (h_x1 : In 1 600 x1) (h_y0 : Tx T 100 y0) (hfph0 : Ph S0 ≤ 1100) : Ho (f_M_pass_B32  S x0 x1 y0 (1 : Int32) (0 : Int32)) (fun q => Rl T kw_M9 S0 0 0 T q.2 ∧ True) := by
  unfold f_M_pass_B32
  refine r_rv g.1 h_y0 rfl ?_
  refine r_mayBoth (w' := kw_M4) g h_y0 (by decide +kernel) (fun s1 g2 g2e c3 c4 => ?_) (fun s1 g2 g2e => ?_)
  · exact absurd rfl c4
  · refine r_ifT (by decide) ?_
    exact r_some ⟨(Rlweak g2 (by decide +kernel) (by decide) (by decide)), trivial⟩
theorem t_M_pass_B32_2t100_3c0_4c0 {T : Nat → Nat} {S0 S : AS} (g : Rl T [] S0 0 0 T S) {x0 : Option Nat} {x1 : Int32} {y0 : Option Nat} (h_x0 : Tx T 100 x0) (h_y0 : Tx T 100 y0) (hfph0 : Ph S0 ≤ 1100) : Ho (f_M_pass_B32  S x0 x1 y0 (0 : Int32) (0 : Int32)) (fun q => Rl T kw_M9 S0 0 0 T q.2 ∧ True) := by
  unfold f_M_pass_B32
  refine r_rv g.1 h_y0 rfl ?_
  refine r_mayBoth (w' := kw_M4) g h_y0 (by decide +kernel) (fun s1 g2 g2e c3 c4 => ?_) (fun s1 g2 g2e => ?_)
  · exact absurd rfl c3
  · refine r_ifT (by decide) ?_
    exact r_some ⟨(Rlweak g2 (by decide +kernel) (by decide) (by decide)), trivial⟩
theorem t_M_pass_B31_2t100_3c1 {T : Nat → Nat} {S0 S : AS} (g : Rl T [] S0 0 0 T S) {x0 : Option Nat} {x1 : Int32} {y0 : Option Nat} (h_x0 : Tx T 100 x0) (h_x1 : In 1 600 x1) (h_y0 : Tx T 100 y0) (hfph0 : Ph S0 ≤ 1100) : Ho (f_M_pass_B31  S x0 x1 y0 (1 : Int32)) (fun q => Rl T kw_M9 S0 0 0 T q.2 ∧ True) := by
  unfold f_M_pass_B31
  exact t_M_pass_B32_2t100_3c1_4c0 (Rlweak g (by decide +kernel) (by decide) (by decide))  h_x0 (In_w h_x1 (by decide) (by decide)) h_y0 (Int.le_trans hfph0 (by decide))
theorem t_M_pass_B31_2t100_3c0 {T : Nat → Nat} {S0 S : AS} (g : Rl T [] S0 0 0 T S) {x0 : Option Nat} {x1 : Int32} {y0 : Option Nat} (h_x0 : Tx T 100 x0) (h_y0 : Tx T 100 y0) (hfph0 : Ph S0 ≤ 1100) : Ho (f_M_pass_B31  S x0 x1 y0 (0 : Int32)) (fun q => Rl T kw_M9 S0 0 0 T q.2 ∧ True) := by
  unfold f_M_pass_B31
  exact t_M_pass_B32_2t100_3c0_4c0 (Rlweak g (by decide +kernel) (by decide) (by decide))  h_x0 h_y0 (Int.le_trans hfph0 (by decide))
theorem t_M_pass {T : Nat → Nat} {S : AS} (hT : TI T S) {a0 : Option Nat} {a1 : Int32} (h_a0 : Tx T 100 a0) (hfph0 : Ph S ≤ 1100) : Ho (f_M_pass  S a0 a1) (fun q => Rl T kw_M9 S 0 0 T q.2 ∧ True) := by
  have g0 := Rlrf hT
  unfold f_M_pass
  refine r_Mi (fun p1 p1b => ?_) ?_
  · have q2 : In 1 2147483647 a1 := In_w (In_le2 p1 (by decide : In 1 1 (1 : Int32)) (In_top a1)) (by decide) (by decide)
    have q3 : In 1 600 a1 := In_w (In_le1 p1b q2 (by decide : In 600 600 (600 : Int32))) (by decide) (by decide)
    refine r_ifF (by decide) ?_
    refine r_gIs g0.1 h_a0 rfl (p := 57) rfl (fun v36 b4 e5 => ?_)
    refine r_if (fun c6 => ?_) (fun c6 => ?_)
    · exact t_M_pass_B31_2t100_3c1 (Rlweak g0 (by decide +kernel) (by decide) (by decide))  h_a0 (In_w q3 (by decide) (by decide)) h_a0 (Int.le_trans hfph0 (by decide))
    · exact t_M_pass_B32_2t100_3c1_4c1 (Rlweak g0 (by decide +kernel) (by decide) (by decide))  h_a0 (In_w q3 (by decide) (by decide)) h_a0 (Int.le_trans hfph0 (by decide))
  · refine r_ifT (by decide) ?_
    exact t_M_pass_B31_2t100_3c0 (Rlweak g0 (by decide +kernel) (by decide) (by decide))  h_a0 h_a0 (Int.le_trans hfph0 (by decide))
theorem t_M_ready {T : Nat → Nat} {S : AS} (hT : TI T S) {a0 : Option Nat} {a1 : Int32} {a2 : Int32} (h_a0 : Tx T 100 a0) (h_a1 : In 0 5 a1) (h_a2 : In 0 2 a2) : Ho (f_M_ready  S a0 a1 a2) (fun q => Rl T kw_M12 S 0 0 T q) := by
  have g0 := Rlrf hT
  unfold f_M_ready
  refine r_gR g0.1 h_a0 rfl rfl (fun v1 h1 => ?_)
  refine r_bIs (w' := kw_M10) g0 h1 rfl (p := 58) rfl rfl (In_w (In_w (In_add (In_w (In_mulc (k := 3) h_a1 (by decide) (by decide) (by decide) (by decide)) (by decide) (by decide) : In 0 15 ((3 : Int32) * a1)) h_a2 (by decide) (by decide)) (by decide) (by decide) : In 0 17 (((3 : Int32) * a1) + a2)) (by decide) (by decide) : In 0 17 (((3 : Int32) * a1) + a2)) (by decide) (fun _ _ _ q => by cases q; exact (In_w (by decide : In 1 1 (1 : Int32)) (by decide) (by decide))) (fun _ => rfl) (by decide) (by decide +kernel) (fun _ => by unfold phc; omega) (fun s2 g3 e4 => ?_)
  have f5 : In 1 1 (sI s2 58 (((3 : Int32) * a1) + a2).toNatClampNeg) := In_eqw e4 (In_w (by decide : In 1 1 (1 : Int32)) (by decide) (by decide))
  refine r_gR g3.1 h_a0 rfl rfl (fun v3 h6 => ?_)
  refine r_bIs (w' := kw_M11) g3 h6 rfl (p := 59) rfl rfl (In_w (In_w (In_add (In_w (In_mulc (k := 3) h_a1 (by decide) (by decide) (by decide) (by decide)) (by decide) (by decide) : In 0 15 ((3 : Int32) * a1)) h_a2 (by decide) (by decide)) (by decide) (by decide) : In 0 17 (((3 : Int32) * a1) + a2)) (by decide) (by decide) : In 0 17 (((3 : Int32) * a1) + a2)) (by decide) (fun _ _ _ q => by cases q) (fun _ => rfl) (by decide) (by decide +kernel) (fun _ => by unfold phc; omega) (fun s7 g8 e9 => ?_)
  have f10 : In 1 1 (sI s7 58 (((3 : Int32) * a1) + a2).toNatClampNeg) := In_ne e9 (by omega) f5
  have f11 : In 0 0 (sI s7 59 (((3 : Int32) * a1) + a2).toNatClampNeg) := In_eqw e9 (In_w (by decide : In 0 0 (0 : Int32)) (by decide) (by decide))
  refine r_if (fun c12 => ?_) (fun c12 => ?_)
  · have q13 : In 2 2 a2 := In_w (In_eq c12 (by decide : In 2 2 (2 : Int32))) (by decide) (by decide)
    refine r_gR g8.1 h_a0 rfl rfl (fun v5 h14 => ?_)
    refine r_bIs (w' := kw_M12) g8 h14 rfl (p := 60) rfl rfl (In_w h_a1 (by decide) (by decide) : In 0 5 a1) (by decide) (fun _ _ _ q => by cases q) (fun _ => rfl) (by decide) (by decide +kernel) (fun _ => by unfold phc; omega) (fun s15 g16 e17 => ?_)
    have f18 : In 1 1 (sI s15 58 (((3 : Int32) * a1) + a2).toNatClampNeg) := In_ne e17 (by omega) f10
    have f19 : In 0 0 (sI s15 59 (((3 : Int32) * a1) + a2).toNatClampNeg) := In_ne e17 (by omega) f11
    have f20 : In 0 0 (sI s15 60 a1.toNatClampNeg) := In_eqw e17 (In_w (by decide : In 0 0 (0 : Int32)) (by decide) (by decide))
    exact r_some (Rlweak g16 (by decide +kernel) (by decide) (by decide))
  · have q21 : In 0 1 a2 := In_w (In_neR c12 h_a2 (by decide)) (by decide) (by decide)
    exact r_some (Rlweak g8 (by decide +kernel) (by decide) (by decide))
theorem t_M_enroll {T : Nat → Nat} {S : AS} (hT : TI T S) {a0 : Option Nat} {a1 : Int32} {a2 : Int32} (h_a0 : Tx T 100 a0) : Ho (f_M_enroll  S a0 a1 a2) (fun q => Rl T kw_M13 S 0 0 T q.2 ∧ In 0 2 q.1) := by
  have g0 := Rlrf hT
  unfold f_M_enroll
  refine r_spl (u_isSix _ _) (fun q1 => ?_) ?_
  · have q2 : In 0 5 a1 := In_w q1 (by decide) (by decide)
    refine r_spl (u_isFactor _ _) (fun q3 => ?_) ?_
    · have q4 : In 0 2 a2 := In_w q3 (by decide) (by decide)
      refine r_rv g0.1 h_a0 rfl ?_
      refine r_mayBoth (w' := kw_M4) g0 h_a0 (by decide +kernel) (fun s5 g6 g6e c7 c8 => ?_) (fun s5 g6 g6e => ?_)
      · refine r_ifF (by decide) ?_
        refine r_gR g6.1 h_a0 rfl rfl (fun v8 h9 => ?_)
        refine r_aIs g6.1 h9 rfl (p := 58) rfl rfl (In_w (In_w (In_add (In_w (In_mulc (k := 3) q2 (by decide) (by decide) (by decide) (by decide)) (by decide) (by decide) : In 0 15 ((3 : Int32) * a1)) q4 (by decide) (by decide)) (by decide) (by decide) : In 0 17 (((3 : Int32) * a1) + a2)) (by decide) (by decide) : In 0 17 (((3 : Int32) * a1) + a2)) (by decide) (fun v9 b10 e11 => ?_)
        have q12 : In 0 2 v9 := b10 _ _ rfl
        refine r_rv g6.1 h_a0 rfl ?_
        refine r_bind (t_M_ready g6.1 h_a0 (In_w q2 (by decide) (by decide)) (In_w q4 (by decide) (by decide))) (fun s13 h14 => ?_)
        have g15 : Rl T kw_M13 S 0 0 T s13 := Rltrans g6 h14 (by decide +kernel)
        exact r_some ⟨(Rlweak g15 (by decide +kernel) (by decide) (by decide)), (In_w q12 (by decide) (by decide))⟩
      · refine r_ifT (by decide) ?_
        exact r_some ⟨(Rlweak g6 (by decide +kernel) (by decide) (by decide)), (In_w (by decide : In 0 0 (0 : Int32)) (by decide) (by decide))⟩
    · refine r_rv g0.1 h_a0 rfl ?_
      refine r_mayBoth (w' := kw_M4) g0 h_a0 (by decide +kernel) (fun s16 g17 g17e c18 c19 => ?_) (fun s16 g17 g17e => ?_)
      · exact absurd rfl c19
      · refine r_ifT (by decide) ?_
        exact r_some ⟨(Rlweak g17 (by decide +kernel) (by decide) (by decide)), (In_w (by decide : In 0 0 (0 : Int32)) (by decide) (by decide))⟩
  · refine r_spl (u_isFactor _ _) (fun q20 => ?_) ?_
    · have q21 : In 0 2 a2 := In_w q20 (by decide) (by decide)
      refine r_rv g0.1 h_a0 rfl ?_
      refine r_mayBoth (w' := kw_M4) g0 h_a0 (by decide +kernel) (fun s22 g23 g23e c24 c25 => ?_) (fun s22 g23 g23e => ?_)
      · exact absurd rfl c24
      · refine r_ifT (by decide) ?_
        exact r_some ⟨(Rlweak g23 (by decide +kernel) (by decide) (by decide)), (In_w (by decide : In 0 0 (0 : Int32)) (by decide) (by decide))⟩
    · refine r_rv g0.1 h_a0 rfl ?_
      refine r_mayBoth (w' := kw_M4) g0 h_a0 (by decide +kernel) (fun s26 g27 g27e c28 c29 => ?_) (fun s26 g27 g27e => ?_)
      · exact absurd rfl c28
      · refine r_ifT (by decide) ?_
        exact r_some ⟨(Rlweak g27 (by decide +kernel) (by decide) (by decide)), (In_w (by decide : In 0 0 (0 : Int32)) (by decide) (by decide))⟩
theorem t_M_factor {T : Nat → Nat} {S : AS} (hT : TI T S) {a0 : Option Nat} {a1 : Int32} {a2 : Int32} (h_a0 : Tx T 100 a0) : Ho (f_M_factor  S a0 a1 a2) (fun q => Rl T kw_M4 S 0 0 T q.2 ∧ In 0 2 q.1) := by
  have g0 := Rlrf hT
  unfold f_M_factor
  refine r_spl (u_isSix _ _) (fun q1 => ?_) ?_
  · have q2 : In 0 5 a1 := In_w q1 (by decide) (by decide)
    refine r_spl (u_isFactor _ _) (fun q3 => ?_) ?_
    · have q4 : In 0 2 a2 := In_w q3 (by decide) (by decide)
      refine r_rv g0.1 h_a0 rfl ?_
      refine r_mayBoth (w' := kw_M4) g0 h_a0 (by decide +kernel) (fun s5 g6 g6e c7 c8 => ?_) (fun s5 g6 g6e => ?_)
      · refine r_ifF (by decide) ?_
        refine r_gR g6.1 h_a0 rfl rfl (fun v8 h9 => ?_)
        refine r_aIs g6.1 h9 rfl (p := 58) rfl rfl (In_w (In_w (In_add (In_w (In_mulc (k := 3) q2 (by decide) (by decide) (by decide) (by decide)) (by decide) (by decide) : In 0 15 ((3 : Int32) * a1)) q4 (by decide) (by decide)) (by decide) (by decide) : In 0 17 (((3 : Int32) * a1) + a2)) (by decide) (by decide) : In 0 17 (((3 : Int32) * a1) + a2)) (by decide) (fun v9 b10 e11 => ?_)
        have q12 : In 0 2 v9 := b10 _ _ rfl
        exact r_some ⟨(Rlweak g6 (by decide +kernel) (by decide) (by decide)), (In_w q12 (by decide) (by decide))⟩
      · refine r_ifT (by decide) ?_
        exact r_some ⟨(Rlweak g6 (by decide +kernel) (by decide) (by decide)), (In_w (by decide : In 0 0 (0 : Int32)) (by decide) (by decide))⟩
    · refine r_rv g0.1 h_a0 rfl ?_
      refine r_mayBoth (w' := kw_M4) g0 h_a0 (by decide +kernel) (fun s13 g14 g14e c15 c16 => ?_) (fun s13 g14 g14e => ?_)
      · exact absurd rfl c16
      · refine r_ifT (by decide) ?_
        exact r_some ⟨(Rlweak g14 (by decide +kernel) (by decide) (by decide)), (In_w (by decide : In 0 0 (0 : Int32)) (by decide) (by decide))⟩
  · refine r_spl (u_isFactor _ _) (fun q17 => ?_) ?_
    · have q18 : In 0 2 a2 := In_w q17 (by decide) (by decide)
      refine r_rv g0.1 h_a0 rfl ?_
      refine r_mayBoth (w' := kw_M4) g0 h_a0 (by decide +kernel) (fun s19 g20 g20e c21 c22 => ?_) (fun s19 g20 g20e => ?_)
      · exact absurd rfl c21
      · refine r_ifT (by decide) ?_
        exact r_some ⟨(Rlweak g20 (by decide +kernel) (by decide) (by decide)), (In_w (by decide : In 0 0 (0 : Int32)) (by decide) (by decide))⟩
    · refine r_rv g0.1 h_a0 rfl ?_
      refine r_mayBoth (w' := kw_M4) g0 h_a0 (by decide +kernel) (fun s23 g24 g24e c25 c26 => ?_) (fun s23 g24 g24e => ?_)
      · exact absurd rfl c25
      · refine r_ifT (by decide) ?_
        exact r_some ⟨(Rlweak g24 (by decide +kernel) (by decide) (by decide)), (In_w (by decide : In 0 0 (0 : Int32)) (by decide) (by decide))⟩
theorem t_M_step_B136_6t100_7c1_8c0 {T : Nat → Nat} {S0 S : AS} (g : Rl T [] S0 0 0 T S) {x0 : Option Nat} {x1 : Int32} {x2 : Int32} {x3 : Int32} {x4 : Int32} {x5 : Int32} {y0 : Option Nat} (h_x0 : Tx T 100 x0) (h_x1 : In 0 6 x1) (h_x2 : In 0 20 x2) (h_x3 : In 0 3 x3) (h_y0 : Tx T 100 y0) (hx_66_8 : In 12 12 (sI S 66 (8 : Int32).toNatClampNeg)) : Ho (f_M_step_B136  S x0 x1 x2 x3 x4 x5 y0 (1 : Int32) (0 : Int32)) (fun q => Rl T kw_M19 S0 0 0 T q.2 ∧ In 0 11 q.1) := by
  unfold f_M_step_B136
  refine r_rv g.1 h_y0 rfl ?_
  refine r_mayBoth (w' := kw_M4) g h_y0 (by decide +kernel) (fun s1 g2 g2e c3 c4 => ?_) (fun s1 g2 g2e => ?_)
  · exact absurd rfl c4
  · have f5 : In 12 12 (sI s1 66 (8 : Int32).toNatClampNeg) := by rw [g2e 66 (8 : Int32).toNatClampNeg (by omega)]; exact hx_66_8
    refine r_ifT (by decide) ?_
    exact r_some ⟨(Rlweak g2 (by decide +kernel) (by decide) (by decide)), (In_w (by decide : In 0 0 (0 : Int32)) (by decide) (by decide))⟩
theorem t_M_step_B136_6t100_7c1_8c1 {T : Nat → Nat} {S0 S : AS} (g : Rl T [] S0 0 0 T S) {x0 : Option Nat} {x1 : Int32} {x2 : Int32} {x3 : Int32} {x4 : Int32} {x5 : Int32} {y0 : Option Nat} (h_x0 : Tx T 100 x0) (h_x1 : In 0 6 x1) (h_x2 : In 0 20 x2) (h_x3 : In 0 3 x3) (h_y0 : Tx T 100 y0) (hx_66_8 : In 0 11 (sI S 66 (8 : Int32).toNatClampNeg)) : Ho (f_M_step_B136  S x0 x1 x2 x3 x4 x5 y0 (1 : Int32) (1 : Int32)) (fun q => Rl T kw_M19 S0 0 0 T q.2 ∧ In 0 11 q.1) := by
  unfold f_M_step_B136
  refine r_rv g.1 h_y0 rfl ?_
  refine r_mayBoth (w' := kw_M4) g h_y0 (by decide +kernel) (fun s1 g2 g2e c3 c4 => ?_) (fun s1 g2 g2e => ?_)
  · have f5 : In 0 11 (sI s1 66 (8 : Int32).toNatClampNeg) := by rw [g2e 66 (8 : Int32).toNatClampNeg (by omega)]; exact hx_66_8
    refine r_ifF (by decide) ?_
    refine r_gR g2.1 h_x0 rfl rfl (fun v4 h6 => ?_)
    refine r_aIs g2.1 h6 rfl (p := 66) rfl rfl (In_w (by decide : In 8 8 (8 : Int32)) (by decide) (by decide) : In 0 8 (8 : Int32)) (by decide) (fun v5 b7 e8 => ?_)
    have q9 : In 0 12 v5 := b7 _ _ rfl
    have q10 : In 0 11 v5 := In_w (In_read e8 f5) (by decide) (by decide)
    refine r_val ?_
    generalize ei6 : ((96 : Int32) + v5) = i6
    have qi6 : In 96 107 i6 := by rw [← ei6]; exact (In_w (In_add (by decide : In 96 96 (96 : Int32)) q10 (by decide) (by decide)) (by decide) (by decide) : In 96 107 ((96 : Int32) + v5))
    refine r_gR g2.1 h_x0 rfl rfl (fun v7 h11 => ?_)
    refine r_bIs (w' := kw_M14) g2 h11 rfl (p := 67) rfl rfl (In_w qi6 (by decide) (by decide) : In 0 107 i6) (by decide) (fun _ _ _ q => by cases q; exact (In_w h_x1 (by decide) (by decide))) (fun _ => rfl) (by decide) (by decide +kernel) (fun _ => by unfold phc; omega) (fun s12 g13 e14 => ?_)
    have f15 : In 0 11 (sI s12 66 (8 : Int32).toNatClampNeg) := In_ne e14 (by omega) (In_cell e8 q10)
    have f16 : In 0 6 (sI s12 67 i6.toNatClampNeg) := In_eqw e14 (In_w h_x1 (by decide) (by decide))
    refine r_gR g13.1 h_x0 rfl rfl (fun v9 h17 => ?_)
    refine r_bIs (w' := kw_M15) g13 h17 rfl (p := 68) rfl rfl (In_w qi6 (by decide) (by decide) : In 0 107 i6) (by decide) (fun _ _ _ q => by cases q; exact (In_w h_x2 (by decide) (by decide))) (fun _ => rfl) (by decide) (by decide +kernel) (fun _ => by unfold phc; omega) (fun s18 g19 e20 => ?_)
    have f21 : In 0 11 (sI s18 66 (8 : Int32).toNatClampNeg) := In_ne e20 (by omega) f15
    have f22 : In 0 6 (sI s18 67 i6.toNatClampNeg) := In_ne e20 (by omega) f16
    have f23 : In 0 20 (sI s18 68 i6.toNatClampNeg) := In_eqw e20 (In_w h_x2 (by decide) (by decide))
    refine r_gR g19.1 h_x0 rfl rfl (fun v11 h24 => ?_)
    refine r_bIs (w' := kw_M16) g19 h24 rfl (p := 69) rfl rfl (In_w qi6 (by decide) (by decide) : In 0 107 i6) (by decide) (fun _ _ _ q => by cases q) (fun _ => rfl) (by decide) (by decide +kernel) (fun _ => by unfold phc; omega) (fun s25 g26 e27 => ?_)
    have f28 : In 0 11 (sI s25 66 (8 : Int32).toNatClampNeg) := In_ne e27 (by omega) f21
    have f29 : In 0 6 (sI s25 67 i6.toNatClampNeg) := In_ne e27 (by omega) f22
    have f30 : In 0 20 (sI s25 68 i6.toNatClampNeg) := In_ne e27 (by omega) f23
    have f31 : In 0 3 (sI s25 69 i6.toNatClampNeg) := In_eqw e27 (In_w h_x3 (by decide) (by decide))
    refine r_gR g26.1 h_x0 rfl rfl (fun v13 h32 => ?_)
    refine r_bIs (w' := kw_M17) g26 h32 rfl (p := 70) rfl rfl (In_w qi6 (by decide) (by decide) : In 0 107 i6) (by decide) (fun _ _ _ q => by cases q) (fun _ => rfl) (by decide) (by decide +kernel) (fun _ => by unfold phc; omega) (fun s33 g34 e35 => ?_)
    have f36 : In 0 11 (sI s33 66 (8 : Int32).toNatClampNeg) := In_ne e35 (by omega) f28
    have f37 : In 0 6 (sI s33 67 i6.toNatClampNeg) := In_ne e35 (by omega) f29
    have f38 : In 0 20 (sI s33 68 i6.toNatClampNeg) := In_ne e35 (by omega) f30
    have f39 : In 0 3 (sI s33 69 i6.toNatClampNeg) := In_ne e35 (by omega) f31
    refine r_gR g34.1 h_x0 rfl rfl (fun v15 h40 => ?_)
    refine r_bIs (w' := kw_M18) g34 h40 rfl (p := 71) rfl rfl (In_w qi6 (by decide) (by decide) : In 0 107 i6) (by decide) (fun _ _ _ q => by cases q) (fun _ => rfl) (by decide) (by decide +kernel) (fun _ => by unfold phc; omega) (fun s41 g42 e43 => ?_)
    have f44 : In 0 11 (sI s41 66 (8 : Int32).toNatClampNeg) := In_ne e43 (by omega) f36
    have f45 : In 0 6 (sI s41 67 i6.toNatClampNeg) := In_ne e43 (by omega) f37
    have f46 : In 0 20 (sI s41 68 i6.toNatClampNeg) := In_ne e43 (by omega) f38
    have f47 : In 0 3 (sI s41 69 i6.toNatClampNeg) := In_ne e43 (by omega) f39
    refine r_gR g42.1 h_x0 rfl rfl (fun v17 h48 => ?_)
    refine r_aIs g42.1 h48 rfl (p := 66) rfl rfl (In_w (by decide : In 8 8 (8 : Int32)) (by decide) (by decide) : In 0 8 (8 : Int32)) (by decide) (fun v18 b49 e50 => ?_)
    have q51 : In 0 12 v18 := b49 _ _ rfl
    have q52 : In 0 11 v18 := In_w (In_read e50 f44) (by decide) (by decide)
    refine r_bIs (w' := kw_M19) g42 h48 rfl (p := 66) rfl rfl (In_w (by decide : In 8 8 (8 : Int32)) (by decide) (by decide) : In 0 8 (8 : Int32)) (by decide) (fun _ _ _ q => by cases q; exact (In_w (In_w (In_add q52 (by decide : In 1 1 (1 : Int32)) (by decide) (by decide)) (by decide) (by decide) : In 1 12 (v18 + (1 : Int32))) (by decide) (by decide))) (fun _ => rfl) (by decide) (by decide +kernel) (fun _ => by unfold phc; omega) (fun s53 g54 e55 => ?_)
    have f56 : In 0 6 (sI s53 67 i6.toNatClampNeg) := In_ne e55 (by omega) f45
    have f57 : In 0 20 (sI s53 68 i6.toNatClampNeg) := In_ne e55 (by omega) f46
    have f58 : In 0 3 (sI s53 69 i6.toNatClampNeg) := In_ne e55 (by omega) f47
    have f59 : In 1 12 (sI s53 66 (8 : Int32).toNatClampNeg) := In_eqw e55 (In_w (In_w (In_add q52 (by decide : In 1 1 (1 : Int32)) (by decide) (by decide)) (by decide) (by decide) : In 1 12 (v18 + (1 : Int32))) (by decide) (by decide))
    refine r_gR g54.1 h_x0 rfl rfl (fun v20 h60 => ?_)
    refine r_aIs g54.1 h60 rfl (p := 66) rfl rfl (In_w (by decide : In 8 8 (8 : Int32)) (by decide) (by decide) : In 0 8 (8 : Int32)) (by decide) (fun v21 b61 e62 => ?_)
    have q63 : In 0 12 v21 := b61 _ _ rfl
    have q64 : In 1 12 v21 := In_w (In_read e62 f59) (by decide) (by decide)
    exact r_some ⟨(Rlweak g54 (by decide +kernel) (by decide) (by decide)), (In_w (In_w (In_sub q64 (by decide : In 1 1 (1 : Int32)) (by decide) (by decide)) (by decide) (by decide) : In 0 11 (v21 - (1 : Int32))) (by decide) (by decide))⟩
  · have f65 : In 0 11 (sI s1 66 (8 : Int32).toNatClampNeg) := by rw [g2e 66 (8 : Int32).toNatClampNeg (by omega)]; exact hx_66_8
    refine r_ifT (by decide) ?_
    exact r_some ⟨(Rlweak g2 (by decide +kernel) (by decide) (by decide)), (In_w (by decide : In 0 0 (0 : Int32)) (by decide) (by decide))⟩
theorem t_M_step_B136_6t100_7c0_8c0 {T : Nat → Nat} {S0 S : AS} (g : Rl T [] S0 0 0 T S) {x0 : Option Nat} {x1 : Int32} {x2 : Int32} {x3 : Int32} {x4 : Int32} {x5 : Int32} {y0 : Option Nat} (h_x0 : Tx T 100 x0) (h_y0 : Tx T 100 y0) (hx_66_8 : In 12 12 (sI S 66 (8 : Int32).toNatClampNeg)) : Ho (f_M_step_B136  S x0 x1 x2 x3 x4 x5 y0 (0 : Int32) (0 : Int32)) (fun q => Rl T kw_M19 S0 0 0 T q.2 ∧ In 0 11 q.1) := by
  unfold f_M_step_B136
  refine r_rv g.1 h_y0 rfl ?_
  refine r_mayBoth (w' := kw_M4) g h_y0 (by decide +kernel) (fun s1 g2 g2e c3 c4 => ?_) (fun s1 g2 g2e => ?_)
  · exact absurd rfl c3
  · have f5 : In 12 12 (sI s1 66 (8 : Int32).toNatClampNeg) := by rw [g2e 66 (8 : Int32).toNatClampNeg (by omega)]; exact hx_66_8
    refine r_ifT (by decide) ?_
    exact r_some ⟨(Rlweak g2 (by decide +kernel) (by decide) (by decide)), (In_w (by decide : In 0 0 (0 : Int32)) (by decide) (by decide))⟩
theorem t_M_step_B136_6t100_7c0_8c1 {T : Nat → Nat} {S0 S : AS} (g : Rl T [] S0 0 0 T S) {x0 : Option Nat} {x1 : Int32} {x2 : Int32} {x3 : Int32} {x4 : Int32} {x5 : Int32} {y0 : Option Nat} (h_x0 : Tx T 100 x0) (h_y0 : Tx T 100 y0) (hx_66_8 : In 0 11 (sI S 66 (8 : Int32).toNatClampNeg)) : Ho (f_M_step_B136  S x0 x1 x2 x3 x4 x5 y0 (0 : Int32) (1 : Int32)) (fun q => Rl T kw_M19 S0 0 0 T q.2 ∧ In 0 11 q.1) := by
  unfold f_M_step_B136
  refine r_rv g.1 h_y0 rfl ?_
  refine r_mayBoth (w' := kw_M4) g h_y0 (by decide +kernel) (fun s1 g2 g2e c3 c4 => ?_) (fun s1 g2 g2e => ?_)
  · exact absurd rfl c3
  · have f5 : In 0 11 (sI s1 66 (8 : Int32).toNatClampNeg) := by rw [g2e 66 (8 : Int32).toNatClampNeg (by omega)]; exact hx_66_8
    refine r_ifT (by decide) ?_
    exact r_some ⟨(Rlweak g2 (by decide +kernel) (by decide) (by decide)), (In_w (by decide : In 0 0 (0 : Int32)) (by decide) (by decide))⟩
theorem t_M_step_B114_6c1 {T : Nat → Nat} {S0 S : AS} (g : Rl T [] S0 0 0 T S) {x0 : Option Nat} {x1 : Int32} {x2 : Int32} {x3 : Int32} {x4 : Int32} {x5 : Int32} (h_x0 : Tx T 100 x0) (h_x1 : In 0 6 x1) (h_x2 : In 0 20 x2) (h_x3 : In 0 3 x3) : Ho (f_M_step_B114  S x0 x1 x2 x3 x4 x5 (1 : Int32)) (fun q => Rl T kw_M19 S0 0 0 T q.2 ∧ In 0 11 q.1) := by
  unfold f_M_step_B114
  refine r_gR g.1 h_x0 rfl rfl (fun v22 h1 => ?_)
  refine r_aIs g.1 h1 rfl (p := 66) rfl rfl (In_w (by decide : In 8 8 (8 : Int32)) (by decide) (by decide) : In 0 8 (8 : Int32)) (by decide) (fun v23 b2 e3 => ?_)
  have q4 : In 0 12 v23 := b2 _ _ rfl
  refine r_if (fun c5 => ?_) (fun c5 => ?_)
  · have q6 : In 12 12 v23 := In_w (In_le2 c5 (by decide : In 12 12 (12 : Int32)) q4) (by decide) (by decide)
    exact t_M_step_B136_6t100_7c1_8c0 (Rlweak g (by decide +kernel) (by decide) (by decide))  h_x0 (In_w h_x1 (by decide) (by decide)) (In_w h_x2 (by decide) (by decide)) (In_w h_x3 (by decide) (by decide)) h_x0 (In_w (In_cell e3 q6) (by decide) (by decide)) 
  · have q7 : In 0 11 v23 := In_w (In_lt1 (Int32.not_le.mp c5) q4 (by decide : In 12 12 (12 : Int32))) (by decide) (by decide)
    exact t_M_step_B136_6t100_7c1_8c1 (Rlweak g (by decide +kernel) (by decide) (by decide))  h_x0 (In_w h_x1 (by decide) (by decide)) (In_w h_x2 (by decide) (by decide)) (In_w h_x3 (by decide) (by decide)) h_x0 (In_w (In_cell e3 q7) (by decide) (by decide)) 
theorem t_M_step_B114_6c0 {T : Nat → Nat} {S0 S : AS} (g : Rl T [] S0 0 0 T S) {x0 : Option Nat} {x1 : Int32} {x2 : Int32} {x3 : Int32} {x4 : Int32} {x5 : Int32} (h_x0 : Tx T 100 x0) : Ho (f_M_step_B114  S x0 x1 x2 x3 x4 x5 (0 : Int32)) (fun q => Rl T kw_M19 S0 0 0 T q.2 ∧ In 0 11 q.1) := by
  unfold f_M_step_B114
  refine r_gR g.1 h_x0 rfl rfl (fun v22 h1 => ?_)
  refine r_aIs g.1 h1 rfl (p := 66) rfl rfl (In_w (by decide : In 8 8 (8 : Int32)) (by decide) (by decide) : In 0 8 (8 : Int32)) (by decide) (fun v23 b2 e3 => ?_)
  have q4 : In 0 12 v23 := b2 _ _ rfl
  refine r_if (fun c5 => ?_) (fun c5 => ?_)
  · have q6 : In 12 12 v23 := In_w (In_le2 c5 (by decide : In 12 12 (12 : Int32)) q4) (by decide) (by decide)
    exact t_M_step_B136_6t100_7c0_8c0 (Rlweak g (by decide +kernel) (by decide) (by decide))  h_x0 h_x0 (In_w (In_cell e3 q6) (by decide) (by decide)) 
  · have q7 : In 0 11 v23 := In_w (In_lt1 (Int32.not_le.mp c5) q4 (by decide : In 12 12 (12 : Int32))) (by decide) (by decide)
    exact t_M_step_B136_6t100_7c0_8c1 (Rlweak g (by decide +kernel) (by decide) (by decide))  h_x0 h_x0 (In_w (In_cell e3 q7) (by decide) (by decide)) 
theorem t_M_step_B109 {T : Nat → Nat} {S0 S : AS} (g : Rl T [] S0 0 0 T S) {x0 : Option Nat} {x1 : Int32} {x2 : Int32} {x3 : Int32} {x4 : Int32} {x5 : Int32} (h_x0 : Tx T 100 x0) (h_x1 : In 0 6 x1) (h_x2 : In 0 20 x2) (h_x3 : In 0 3 x3) : Ho (f_M_step_B109  S x0 x1 x2 x3 x4 x5) (fun q => Rl T kw_M19 S0 0 0 T q.2 ∧ In 0 11 q.1) := by
  unfold f_M_step_B109
  exact t_M_step_B114_6c1 (Rlweak g (by decide +kernel) (by decide) (by decide))  h_x0 (In_w h_x1 (by decide) (by decide)) (In_w h_x2 (by decide) (by decide)) (In_w h_x3 (by decide) (by decide)) 
theorem t_M_step_B113 {T : Nat → Nat} {S0 S : AS} (g : Rl T [] S0 0 0 T S) {x0 : Option Nat} {x1 : Int32} {x2 : Int32} {x3 : Int32} {x4 : Int32} {x5 : Int32} (h_x0 : Tx T 100 x0) : Ho (f_M_step_B113  S x0 x1 x2 x3 x4 x5) (fun q => Rl T kw_M19 S0 0 0 T q.2 ∧ In 0 11 q.1) := by
  unfold f_M_step_B113
  exact t_M_step_B114_6c0 (Rlweak g (by decide +kernel) (by decide) (by decide))  h_x0 
theorem t_M_step_B81_6c1 {T : Nat → Nat} {S0 S : AS} (g : Rl T [] S0 0 0 T S) {x0 : Option Nat} {x1 : Int32} {x2 : Int32} {x3 : Int32} {x4 : Int32} {x5 : Int32} (h_x0 : Tx T 100 x0) (h_x1 : In 0 6 x1) (h_x2 : In 0 20 x2) (h_x3 : In 0 3 x3) : Ho (f_M_step_B81  S x0 x1 x2 x3 x4 x5 (1 : Int32)) (fun q => Rl T kw_M19 S0 0 0 T q.2 ∧ In 0 11 q.1) := by
  unfold f_M_step_B81
  refine r_ifF (by decide) ?_
  refine r_if (fun c1 => ?_) (fun c1 => ?_)
  · have q2 : In 5 6 x1 := In_w (In_le2 c1 (by decide : In 5 5 (5 : Int32)) h_x1) (by decide) (by decide)
    exact t_M_step_B109 (Rlweak g (by decide +kernel) (by decide) (by decide))  h_x0 (In_w q2 (by decide) (by decide)) (In_w h_x2 (by decide) (by decide)) (In_w h_x3 (by decide) (by decide)) 
  · have q3 : In 0 4 x1 := In_w (In_lt1 (Int32.not_le.mp c1) h_x1 (by decide : In 5 5 (5 : Int32))) (by decide) (by decide)
    refine r_spl (u_isNext _ _) (fun q4 => ?_) ?_
    · have q5 : In (-1) 11 x4 := In_w q4 (by decide) (by decide)
      refine r_ifF (by decide) ?_
      refine r_spl (u_isNext _ _) (fun q6 => ?_) ?_
      · have q7 : In (-1) 11 x5 := In_w q6 (by decide) (by decide)
        refine r_ifF (by decide) ?_
        exact t_M_step_B109 (Rlweak g (by decide +kernel) (by decide) (by decide))  h_x0 (In_w q3 (by decide) (by decide)) (In_w h_x2 (by decide) (by decide)) (In_w h_x3 (by decide) (by decide)) 
      · refine r_ifT (by decide) ?_
        exact t_M_step_B113 (Rlweak g (by decide +kernel) (by decide) (by decide))  h_x0 
    · refine r_ifT (by decide) ?_
      exact t_M_step_B113 (Rlweak g (by decide +kernel) (by decide) (by decide))  h_x0 
theorem t_M_step_B81_6c0 {T : Nat → Nat} {S0 S : AS} (g : Rl T [] S0 0 0 T S) {x0 : Option Nat} {x1 : Int32} {x2 : Int32} {x3 : Int32} {x4 : Int32} {x5 : Int32} (h_x0 : Tx T 100 x0) : Ho (f_M_step_B81  S x0 x1 x2 x3 x4 x5 (0 : Int32)) (fun q => Rl T kw_M19 S0 0 0 T q.2 ∧ In 0 11 q.1) := by
  unfold f_M_step_B81
  refine r_ifT (by decide) ?_
  exact t_M_step_B113 (Rlweak g (by decide +kernel) (by decide) (by decide))  h_x0 
theorem t_M_step_B76 {T : Nat → Nat} {S0 S : AS} (g : Rl T [] S0 0 0 T S) {x0 : Option Nat} {x1 : Int32} {x2 : Int32} {x3 : Int32} {x4 : Int32} {x5 : Int32} (h_x0 : Tx T 100 x0) (h_x1 : In 0 6 x1) (h_x2 : In 0 20 x2) (h_x3 : In 0 3 x3) : Ho (f_M_step_B76  S x0 x1 x2 x3 x4 x5) (fun q => Rl T kw_M19 S0 0 0 T q.2 ∧ In 0 11 q.1) := by
  unfold f_M_step_B76
  exact t_M_step_B81_6c1 (Rlweak g (by decide +kernel) (by decide) (by decide))  h_x0 (In_w h_x1 (by decide) (by decide)) (In_w h_x2 (by decide) (by decide)) (In_w h_x3 (by decide) (by decide)) 
theorem t_M_step_B80 {T : Nat → Nat} {S0 S : AS} (g : Rl T [] S0 0 0 T S) {x0 : Option Nat} {x1 : Int32} {x2 : Int32} {x3 : Int32} {x4 : Int32} {x5 : Int32} (h_x0 : Tx T 100 x0) : Ho (f_M_step_B80  S x0 x1 x2 x3 x4 x5) (fun q => Rl T kw_M19 S0 0 0 T q.2 ∧ In 0 11 q.1) := by
  unfold f_M_step_B80
  exact t_M_step_B81_6c0 (Rlweak g (by decide +kernel) (by decide) (by decide))  h_x0 
theorem t_M_step_B34_6c20 {T : Nat → Nat} {S0 S : AS} (g : Rl T [] S0 0 0 T S) {x0 : Option Nat} {x1 : Int32} {x2 : Int32} {x3 : Int32} {x4 : Int32} {x5 : Int32} (h_x0 : Tx T 100 x0) (h_x1 : In 2 2 x1) : Ho (f_M_step_B34  S x0 x1 x2 x3 x4 x5 (20 : Int32)) (fun q => Rl T kw_M19 S0 0 0 T q.2 ∧ In 0 11 q.1) := by
  unfold f_M_step_B34
  refine r_Mi (fun p1 p1b => ?_) ?_
  · refine r_ifF (by decide) ?_
    refine r_Mi (fun p2 p2b => ?_) ?_
    · have q3 : In 0 2147483647 x2 := In_w (In_le2 p2 (by decide : In 0 0 (0 : Int32)) (In_top x2)) (by decide) (by decide)
      have q4 : In 0 20 x2 := In_w (In_le1 p2b q3 (by decide : In 20 20 (20 : Int32))) (by decide) (by decide)
      refine r_ifF (by decide) ?_
      refine r_if (fun c5 => ?_) (fun c5 => ?_)
      · have q6 : In 2 0 x1 := In_w (In_glb h_x1 (In_eq c5 (by decide : In 0 0 (0 : Int32)))) (by decide) (by decide)
        exact absurd q6.1 (by have := q6.2; omega)
      · refine r_if (fun c7 => ?_) (fun c7 => ?_)
        · have q8 : In 0 0 x3 := In_w (In_eq c7 (by decide : In 0 0 (0 : Int32))) (by decide) (by decide)
          exact t_M_step_B76 (Rlweak g (by decide +kernel) (by decide) (by decide))  h_x0 (In_w h_x1 (by decide) (by decide)) (In_w q4 (by decide) (by decide)) (In_w q8 (by decide) (by decide)) 
        · exact t_M_step_B80 (Rlweak g (by decide +kernel) (by decide) (by decide))  h_x0
    · refine r_ifT (by decide) ?_
      exact t_M_step_B80 (Rlweak g (by decide +kernel) (by decide) (by decide))  h_x0 
  · refine r_ifT (by decide) ?_
    exact t_M_step_B80 (Rlweak g (by decide +kernel) (by decide) (by decide))  h_x0 
theorem t_M_step_B34_6c6 {T : Nat → Nat} {S0 S : AS} (g : Rl T [] S0 0 0 T S) {x0 : Option Nat} {x1 : Int32} {x2 : Int32} {x3 : Int32} {x4 : Int32} {x5 : Int32} (h_x0 : Tx T 100 x0) (h_x1 : In 4 4 x1) : Ho (f_M_step_B34  S x0 x1 x2 x3 x4 x5 (6 : Int32)) (fun q => Rl T kw_M19 S0 0 0 T q.2 ∧ In 0 11 q.1) := by
  unfold f_M_step_B34
  refine r_Mi (fun p1 p1b => ?_) ?_
  · refine r_ifF (by decide) ?_
    refine r_Mi (fun p2 p2b => ?_) ?_
    · have q3 : In 0 2147483647 x2 := In_w (In_le2 p2 (by decide : In 0 0 (0 : Int32)) (In_top x2)) (by decide) (by decide)
      have q4 : In 0 6 x2 := In_w (In_le1 p2b q3 (by decide : In 6 6 (6 : Int32))) (by decide) (by decide)
      refine r_ifF (by decide) ?_
      refine r_if (fun c5 => ?_) (fun c5 => ?_)
      · have q6 : In 4 0 x1 := In_w (In_glb h_x1 (In_eq c5 (by decide : In 0 0 (0 : Int32)))) (by decide) (by decide)
        exact absurd q6.1 (by have := q6.2; omega)
      · refine r_if (fun c7 => ?_) (fun c7 => ?_)
        · have q8 : In 0 0 x3 := In_w (In_eq c7 (by decide : In 0 0 (0 : Int32))) (by decide) (by decide)
          exact t_M_step_B76 (Rlweak g (by decide +kernel) (by decide) (by decide))  h_x0 (In_w h_x1 (by decide) (by decide)) (In_w q4 (by decide) (by decide)) (In_w q8 (by decide) (by decide)) 
        · exact t_M_step_B80 (Rlweak g (by decide +kernel) (by decide) (by decide))  h_x0
    · refine r_ifT (by decide) ?_
      exact t_M_step_B80 (Rlweak g (by decide +kernel) (by decide) (by decide))  h_x0 
  · refine r_ifT (by decide) ?_
    exact t_M_step_B80 (Rlweak g (by decide +kernel) (by decide) (by decide))  h_x0 
theorem t_M_step_B34_6c0 {T : Nat → Nat} {S0 S : AS} (g : Rl T [] S0 0 0 T S) {x0 : Option Nat} {x1 : Int32} {x2 : Int32} {x3 : Int32} {x4 : Int32} {x5 : Int32} (h_x0 : Tx T 100 x0) : Ho (f_M_step_B34  S x0 x1 x2 x3 x4 x5 (0 : Int32)) (fun q => Rl T kw_M19 S0 0 0 T q.2 ∧ In 0 11 q.1) := by
  unfold f_M_step_B34
  refine r_Mi (fun p1 p1b => ?_) ?_
  · have q2 : In 0 2147483647 x1 := In_w (In_le2 p1 (by decide : In 0 0 (0 : Int32)) (In_top x1)) (by decide) (by decide)
    have q3 : In 0 6 x1 := In_w (In_le1 p1b q2 (by decide : In 6 6 (6 : Int32))) (by decide) (by decide)
    refine r_ifF (by decide) ?_
    refine r_Mi (fun p4 p4b => ?_) ?_
    · have q5 : In 0 2147483647 x2 := In_w (In_le2 p4 (by decide : In 0 0 (0 : Int32)) (In_top x2)) (by decide) (by decide)
      have q6 : In 0 0 x2 := In_w (In_le1 p4b q5 (by decide : In 0 0 (0 : Int32))) (by decide) (by decide)
      refine r_ifF (by decide) ?_
      refine r_if (fun c7 => ?_) (fun c7 => ?_)
      · have q8 : In 0 0 x1 := In_w (In_eq c7 (by decide : In 0 0 (0 : Int32))) (by decide) (by decide)
        refine r_Mi (fun p9 p9b => ?_) ?_
        · have q10 : In 1 2147483647 x3 := In_w (In_le2 p9 (by decide : In 1 1 (1 : Int32)) (In_top x3)) (by decide) (by decide)
          have q11 : In 1 3 x3 := In_w (In_le1 p9b q10 (by decide : In 3 3 (3 : Int32))) (by decide) (by decide)
          refine r_ifF (by decide) ?_
          exact t_M_step_B76 (Rlweak g (by decide +kernel) (by decide) (by decide))  h_x0 (In_w q8 (by decide) (by decide)) (In_w q6 (by decide) (by decide)) (In_w q11 (by decide) (by decide)) 
        · refine r_ifT (by decide) ?_
          exact t_M_step_B80 (Rlweak g (by decide +kernel) (by decide) (by decide))  h_x0 
      · have q12 : In 1 6 x1 := In_w (In_neL c7 q3 (by decide)) (by decide) (by decide)
        refine r_if (fun c13 => ?_) (fun c13 => ?_)
        · have q14 : In 0 0 x3 := In_w (In_eq c13 (by decide : In 0 0 (0 : Int32))) (by decide) (by decide)
          exact t_M_step_B76 (Rlweak g (by decide +kernel) (by decide) (by decide))  h_x0 (In_w q12 (by decide) (by decide)) (In_w q6 (by decide) (by decide)) (In_w q14 (by decide) (by decide)) 
        · exact t_M_step_B80 (Rlweak g (by decide +kernel) (by decide) (by decide))  h_x0
    · refine r_ifT (by decide) ?_
      exact t_M_step_B80 (Rlweak g (by decide +kernel) (by decide) (by decide))  h_x0 
  · refine r_ifT (by decide) ?_
    exact t_M_step_B80 (Rlweak g (by decide +kernel) (by decide) (by decide))  h_x0 
theorem t_M_step_B34_6c2 {T : Nat → Nat} {S0 S : AS} (g : Rl T [] S0 0 0 T S) {x0 : Option Nat} {x1 : Int32} {x2 : Int32} {x3 : Int32} {x4 : Int32} {x5 : Int32} (h_x0 : Tx T 100 x0) (h_x1 : In 0 3 x1) : Ho (f_M_step_B34  S x0 x1 x2 x3 x4 x5 (2 : Int32)) (fun q => Rl T kw_M19 S0 0 0 T q.2 ∧ In 0 11 q.1) := by
  unfold f_M_step_B34
  refine r_Mi (fun p1 p1b => ?_) ?_
  · refine r_ifF (by decide) ?_
    refine r_Mi (fun p2 p2b => ?_) ?_
    · have q3 : In 0 2147483647 x2 := In_w (In_le2 p2 (by decide : In 0 0 (0 : Int32)) (In_top x2)) (by decide) (by decide)
      have q4 : In 0 2 x2 := In_w (In_le1 p2b q3 (by decide : In 2 2 (2 : Int32))) (by decide) (by decide)
      refine r_ifF (by decide) ?_
      refine r_if (fun c5 => ?_) (fun c5 => ?_)
      · have q6 : In 0 0 x1 := In_w (In_eq c5 (by decide : In 0 0 (0 : Int32))) (by decide) (by decide)
        refine r_Mi (fun p7 p7b => ?_) ?_
        · have q8 : In 1 2147483647 x3 := In_w (In_le2 p7 (by decide : In 1 1 (1 : Int32)) (In_top x3)) (by decide) (by decide)
          have q9 : In 1 3 x3 := In_w (In_le1 p7b q8 (by decide : In 3 3 (3 : Int32))) (by decide) (by decide)
          refine r_ifF (by decide) ?_
          exact t_M_step_B76 (Rlweak g (by decide +kernel) (by decide) (by decide))  h_x0 (In_w q6 (by decide) (by decide)) (In_w q4 (by decide) (by decide)) (In_w q9 (by decide) (by decide)) 
        · refine r_ifT (by decide) ?_
          exact t_M_step_B80 (Rlweak g (by decide +kernel) (by decide) (by decide))  h_x0 
      · have q10 : In 1 3 x1 := In_w (In_neL c5 h_x1 (by decide)) (by decide) (by decide)
        refine r_if (fun c11 => ?_) (fun c11 => ?_)
        · have q12 : In 0 0 x3 := In_w (In_eq c11 (by decide : In 0 0 (0 : Int32))) (by decide) (by decide)
          exact t_M_step_B76 (Rlweak g (by decide +kernel) (by decide) (by decide))  h_x0 (In_w q10 (by decide) (by decide)) (In_w q4 (by decide) (by decide)) (In_w q12 (by decide) (by decide)) 
        · exact t_M_step_B80 (Rlweak g (by decide +kernel) (by decide) (by decide))  h_x0
    · refine r_ifT (by decide) ?_
      exact t_M_step_B80 (Rlweak g (by decide +kernel) (by decide) (by decide))  h_x0 
  · refine r_ifT (by decide) ?_
    exact t_M_step_B80 (Rlweak g (by decide +kernel) (by decide) (by decide))  h_x0 
theorem t_M_step_B9 {T : Nat → Nat} {S0 S : AS} (g : Rl T [] S0 0 0 T S) {x0 : Option Nat} {x1 : Int32} {x2 : Int32} {x3 : Int32} {x4 : Int32} {x5 : Int32} (h_x0 : Tx T 100 x0) (h_x1 : In 0 3 x1) : Ho (f_M_step_B9  S x0 x1 x2 x3 x4 x5) (fun q => Rl T kw_M19 S0 0 0 T q.2 ∧ In 0 11 q.1) := by
  unfold f_M_step_B9
  exact t_M_step_B34_6c2 (Rlweak g (by decide +kernel) (by decide) (by decide))  h_x0 (In_w h_x1 (by decide) (by decide)) 
theorem t_M_step {T : Nat → Nat} {S : AS} (hT : TI T S) {a0 : Option Nat} {a1 : Int32} {a2 : Int32} {a3 : Int32} {a4 : Int32} {a5 : Int32} (h_a0 : Tx T 100 a0) : Ho (f_M_step  S a0 a1 a2 a3 a4 a5) (fun q => Rl T kw_M19 S 0 0 T q.2 ∧ In 0 11 q.1) := by
  have g0 := Rlrf hT
  unfold f_M_step
  refine r_if (fun c1 => ?_) (fun c1 => ?_)
  · have q2 : In 0 0 a1 := In_w (In_eq c1 (by decide : In 0 0 (0 : Int32))) (by decide) (by decide)
    exact t_M_step_B9 (Rlweak g0 (by decide +kernel) (by decide) (by decide))  h_a0 (In_w q2 (by decide) (by decide)) 
  · refine r_if (fun c3 => ?_) (fun c3 => ?_)
    · have q4 : In 3 3 a1 := In_w (In_eq c3 (by decide : In 3 3 (3 : Int32))) (by decide) (by decide)
      exact t_M_step_B9 (Rlweak g0 (by decide +kernel) (by decide) (by decide))  h_a0 (In_w q4 (by decide) (by decide)) 
    · refine r_if (fun c5 => ?_) (fun c5 => ?_)
      · have q6 : In 2 2 a1 := In_w (In_eq c5 (by decide : In 2 2 (2 : Int32))) (by decide) (by decide)
        exact t_M_step_B34_6c20 (Rlweak g0 (by decide +kernel) (by decide) (by decide))  h_a0 (In_w q6 (by decide) (by decide)) 
      · refine r_if (fun c7 => ?_) (fun c7 => ?_)
        · have q8 : In 4 4 a1 := In_w (In_eq c7 (by decide : In 4 4 (4 : Int32))) (by decide) (by decide)
          exact t_M_step_B34_6c6 (Rlweak g0 (by decide +kernel) (by decide) (by decide))  h_a0 (In_w q8 (by decide) (by decide)) 
        · exact t_M_step_B34_6c0 (Rlweak g0 (by decide +kernel) (by decide) (by decide))  h_a0
theorem t_M_clear {T : Nat → Nat} {S : AS} (hT : TI T S) {a0 : Option Nat} (h_a0 : Tx T 100 a0) : Ho (f_M_clear  S a0) (fun q => Rl T kw_M20 S 0 0 T q.2 ∧ In 0 12 q.1) := by
  have g0 := Rlrf hT
  unfold f_M_clear
  refine r_pIs (w' := kw_M4) g0 h_a0 (fun _ _ q => by cases q) (by decide +kernel) (by unfold phc; decide) (fun s1 g2 e3 => ?_)
  have f4 : In 0 0 (sI s1 57 82) := In_eqw e3 (In_w (by decide : In 0 0 (0 : Int32)) (by decide) (by decide))
  refine r_gR g2.1 h_a0 rfl rfl (fun v2 h5 => ?_)
  refine r_aIs g2.1 h5 rfl (p := 66) rfl rfl (In_w (by decide : In 8 8 (8 : Int32)) (by decide) (by decide) : In 0 8 (8 : Int32)) (by decide) (fun v3 b6 e7 => ?_)
  have q8 : In 0 12 v3 := b6 _ _ rfl
  refine r_gR g2.1 h_a0 rfl rfl (fun v4 h9 => ?_)
  refine r_bIs (w' := kw_M20) g2 h9 rfl (p := 66) rfl rfl (In_w (by decide : In 8 8 (8 : Int32)) (by decide) (by decide) : In 0 8 (8 : Int32)) (by decide) (fun _ _ _ q => by cases q; exact (In_w (by decide : In 0 0 (0 : Int32)) (by decide) (by decide))) (fun _ => rfl) (by decide) (by decide +kernel) (fun _ => by unfold phc; omega) (fun s10 g11 e12 => ?_)
  have f13 : In 0 0 (sI s10 57 82) := In_ne e12 (by omega) f4
  have f14 : In 0 0 (sI s10 66 (8 : Int32).toNatClampNeg) := In_eqw e12 (In_w (by decide : In 0 0 (0 : Int32)) (by decide) (by decide))
  exact r_some ⟨(Rlweak g11 (by decide +kernel) (by decide) (by decide)), (In_w q8 (by decide) (by decide))⟩
theorem t_M_levelOf {T : Nat → Nat} {S : AS} (hT : TI T S) {a0 : Int32} : Ho (f_M_levelOf  S a0) (fun q => q.2 = S ∧ True) := by
  unfold f_M_levelOf
  exact r_some ⟨rfl, trivial⟩
theorem t_M_meet {T : Nat → Nat} {S : AS} (hT : TI T S) {a0 : Option Nat} {a1 : Int32} {a2 : Int32} (h_a0 : Tx T 100 a0) (h_a1 : In (-1) 11 a1) (h_a2 : In 0 7 a2) : Ho (f_M_meet  S a0 a1 a2) (fun q => Rl T kw_M21 S 0 0 T q) := by
  have g0 := Rlrf hT
  unfold f_M_meet
  refine r_if (fun c1 => ?_) (fun c1 => ?_)
  · have q2 : In (-1) (-1) a1 := In_w (In_lt1 c1 h_a1 (by decide : In 0 0 (0 : Int32))) (by decide) (by decide)
    exact r_some (Rlweak g0 (by decide +kernel) (by decide) (by decide))
  · have q3 : In 0 11 a1 := In_w (In_le2 (Int32.not_lt.mp c1) (by decide : In 0 0 (0 : Int32)) h_a1) (by decide) (by decide)
    refine r_gR g0.1 h_a0 rfl rfl (fun v1 h4 => ?_)
    refine r_bZs (w' := kw_M21) g0 h4 rfl (p := 72) rfl rfl (In_w (In_w (In_add (In_w (In_mulc (k := 8) q3 (by decide) (by decide) (by decide) (by decide)) (by decide) (by decide) : In 0 88 ((8 : Int32) * a1)) h_a2 (by decide) (by decide)) (by decide) (by decide) : In 0 95 (((8 : Int32) * a1) + a2)) (by decide) (by decide) : In 0 95 (((8 : Int32) * a1) + a2)) (by decide) (In_w (by decide : In 1 1 (1 : Int32)) (by decide) (by decide)) (fun _ _ _ q => by cases q; exact (In_w (by decide : In 1 1 (1 : Int32)) (by decide) (by decide))) (fun _ => rfl) (by decide) (by decide +kernel) (fun _ => by unfold phc; omega) (fun s5 g6 e7 => ?_)
    have f8 : In 1 1 (sI s5 72 (((8 : Int32) * a1) + a2).toNatClampNeg) := In_eqw e7 (In_w (by decide : In 1 1 (1 : Int32)) (by decide) (by decide))
    exact r_some (Rlweak g6 (by decide +kernel) (by decide) (by decide))
theorem t_M_weakest_B212 {T : Nat → Nat} {S0 S : AS} (g : Rl T kw_M22 S0 0 0 T S) {x0 : Option Nat} {x1 : Int32} {x2 : Int32} {x3 : Int32} {k50 : AS → Option Nat → Int32 → Int32 → Option (Int32 × AS)} {n50 : Nat} (hk50 : ∀ (S' : AS) (z0 : Option Nat) (z1 : Int32) (z2 : Int32), Rl T kw_M22 S0 0 0 T S' → Tx T 100 z0 → In 0 7 z1 → In 0 96 z2 → (96 + 1 : Int) ≤ z2.toInt + (n50 : Int) → Ho (k50 S' z0 z1 z2) (fun q => Rl T kw_M22 S0 0 0 T q.2 ∧ True)) (hm50 : (96 + 1 : Int) ≤ x2.toInt + ((n50 + 1 : Nat) : Int)) {k58 : AS → Option Nat → Int32 → Int32 → Int32 → Option (Int32 × AS)} {n58 : Nat} (hk58 : ∀ (S' : AS) (z0 : Option Nat) (z1 : Int32) (z2 : Int32) (z3 : Int32), Rl T kw_M22 S0 0 0 T S' → Tx T 100 z0 → In 0 7 z1 → In 0 95 z2 → In 0 96 z3 → (96 + 1 : Int) ≤ z2.toInt + ((n50 + 1 : Nat) : Int) → (96 + 1 : Int) ≤ z3.toInt + (n58 : Int) → Ho (k58 S' z0 z1 z2 z3) (fun q => Rl T kw_M22 S0 0 0 T q.2 ∧ True)) (hm58 : (96 + 1 : Int) ≤ x3.toInt + ((n58 + 1 : Nat) : Int)) (h_x0 : Tx T 100 x0) (h_x1 : In 0 7 x1) (h_x2 : In 0 95 x2) (h_x3 : In 0 95 x3) (hfsr0 : SR S0) : Ho (f_M_weakest_B212 k50 k58 S x0 x1 x2 x3) (fun q => Rl T kw_M22 S0 0 0 T q.2 ∧ True) := by
  unfold f_M_weakest_B212
  refine r_val ?_
  generalize ei1 : (x3 + (1 : Int32)) = i1
  have qi1 : In 1 96 i1 := by rw [← ei1]; exact (In_w (In_add h_x3 (by decide : In 1 1 (1 : Int32)) (by decide) (by decide)) (by decide) (by decide) : In 1 96 (x3 + (1 : Int32)))
  exact hk58 S x0 x1 x2 i1 (Rlweak g (by decide +kernel) (by decide) (by decide)) h_x0 (In_w h_x1 (by decide) (by decide)) (In_w h_x2 (by decide) (by decide)) (In_w qi1 (by decide) (by decide)) hm50 (by rw [← ei1, toInt_add1 h_x3 (by decide) (by decide)]; omega)
theorem t_M_weakest_B199 {T : Nat → Nat} {S0 S : AS} (g : Rl T kw_M22 S0 0 0 T S) {x0 : Option Nat} {x1 : Int32} {x2 : Int32} {x3 : Int32} {x4 : Int32} {x5 : Int32} {k50 : AS → Option Nat → Int32 → Int32 → Option (Int32 × AS)} {n50 : Nat} (hk50 : ∀ (S' : AS) (z0 : Option Nat) (z1 : Int32) (z2 : Int32), Rl T kw_M22 S0 0 0 T S' → Tx T 100 z0 → In 0 7 z1 → In 0 96 z2 → (96 + 1 : Int) ≤ z2.toInt + (n50 : Int) → Ho (k50 S' z0 z1 z2) (fun q => Rl T kw_M22 S0 0 0 T q.2 ∧ True)) (hm50 : (96 + 1 : Int) ≤ x2.toInt + ((n50 + 1 : Nat) : Int)) {k58 : AS → Option Nat → Int32 → Int32 → Int32 → Option (Int32 × AS)} {n58 : Nat} (hk58 : ∀ (S' : AS) (z0 : Option Nat) (z1 : Int32) (z2 : Int32) (z3 : Int32), Rl T kw_M22 S0 0 0 T S' → Tx T 100 z0 → In 0 7 z1 → In 0 95 z2 → In 0 96 z3 → (96 + 1 : Int) ≤ z2.toInt + ((n50 + 1 : Nat) : Int) → (96 + 1 : Int) ≤ z3.toInt + (n58 : Int) → Ho (k58 S' z0 z1 z2 z3) (fun q => Rl T kw_M22 S0 0 0 T q.2 ∧ True)) (hm58 : (96 + 1 : Int) ≤ x3.toInt + ((n58 + 1 : Nat) : Int)) (h_x0 : Tx T 100 x0) (h_x1 : In 0 7 x1) (h_x2 : In 0 95 x2) (h_x3 : In 0 95 x3) (h_x4 : In 0 95 x4) (h_x5 : In 0 7 x5) (hx_67_x4 : In 0 4 (sI S 67 x4.toNatClampNeg)) (hfsr0 : SR S0) : Ho (f_M_weakest_B199 k50 k58 S x0 x1 x2 x3 x4 x5) (fun q => Rl T kw_M22 S0 0 0 T q.2 ∧ True) := by
  unfold f_M_weakest_B199
  refine r_gR g.1 h_x0 rfl rfl (fun v2 h1 => ?_)
  refine r_aIs g.1 h1 rfl (p := 71) rfl rfl (In_w h_x4 (by decide) (by decide) : In 0 95 x4) (by decide) (fun v3 b2 e3 => ?_)
  have q4 : In (-1) 11 v3 := In_w (SR_n (SR_fr hfsr0 g h_x0 (by decide +kernel) (by decide +kernel) (by decide +kernel) (by decide +kernel)) (In_w h_x4 (by decide) (by decide) : In 0 107 x4) hx_67_x4 (by decide) e3) (by decide) (by decide)
  refine r_rv g.1 h_x0 rfl ?_
  refine r_bind (t_M_meet g.1 h_x0 (In_w q4 (by decide) (by decide)) (In_w h_x5 (by decide) (by decide))) (fun s5 h6 => ?_)
  have g7 : Rl T kw_M22 S0 0 0 T s5 := Rltrans g h6 (by decide +kernel)
  have f8 : In 0 4 (sI s5 67 x4.toNatClampNeg) := In_fr h6 h_x0 (j := 11) rfl rfl (by decide) (by decide +kernel) hx_67_x4
  have f9 : In (-1) 11 (sI s5 71 x4.toNatClampNeg) := In_fr h6 h_x0 (j := 15) rfl rfl (by decide) (by decide +kernel) (In_cell e3 q4)
  exact t_M_weakest_B212 (Rlweak g7 (by decide +kernel) (by decide) (by decide)) hk50 hm50 hk58 hm58 h_x0 (In_w h_x1 (by decide) (by decide)) (In_w h_x2 (by decide) (by decide)) (In_w h_x3 (by decide) (by decide)) hfsr0
theorem t_M_weakest_B189_6c1_7c0 {T : Nat → Nat} {S0 S : AS} (g : Rl T kw_M22 S0 0 0 T S) {x0 : Option Nat} {x1 : Int32} {x2 : Int32} {x3 : Int32} {x4 : Int32} {x5 : Int32} {k50 : AS → Option Nat → Int32 → Int32 → Option (Int32 × AS)} {n50 : Nat} (hk50 : ∀ (S' : AS) (z0 : Option Nat) (z1 : Int32) (z2 : Int32), Rl T kw_M22 S0 0 0 T S' → Tx T 100 z0 → In 0 7 z1 → In 0 96 z2 → (96 + 1 : Int) ≤ z2.toInt + (n50 : Int) → Ho (k50 S' z0 z1 z2) (fun q => Rl T kw_M22 S0 0 0 T q.2 ∧ True)) (hm50 : (96 + 1 : Int) ≤ x2.toInt + ((n50 + 1 : Nat) : Int)) {k58 : AS → Option Nat → Int32 → Int32 → Int32 → Option (Int32 × AS)} {n58 : Nat} (hk58 : ∀ (S' : AS) (z0 : Option Nat) (z1 : Int32) (z2 : Int32) (z3 : Int32), Rl T kw_M22 S0 0 0 T S' → Tx T 100 z0 → In 0 7 z1 → In 0 95 z2 → In 0 96 z3 → (96 + 1 : Int) ≤ z2.toInt + ((n50 + 1 : Nat) : Int) → (96 + 1 : Int) ≤ z3.toInt + (n58 : Int) → Ho (k58 S' z0 z1 z2 z3) (fun q => Rl T kw_M22 S0 0 0 T q.2 ∧ True)) (hm58 : (96 + 1 : Int) ≤ x3.toInt + ((n58 + 1 : Nat) : Int)) (h_x0 : Tx T 100 x0) (h_x1 : In 0 7 x1) (h_x2 : In 0 95 x2) (h_x3 : In 0 95 x3) (h_x4 : In 0 95 x4) (h_x5 : In 0 7 x5) (hx_67_x4 : In 4 4 (sI S 67 x4.toNatClampNeg)) (hfsr0 : SR S0) : Ho (f_M_weakest_B189 k50 k58 S x0 x1 x2 x3 x4 x5 (1 : Int32) (0 : Int32)) (fun q => Rl T kw_M22 S0 0 0 T q.2 ∧ True) := by
  unfold f_M_weakest_B189
  refine r_ifF (by decide) ?_
  refine r_ifT (by decide) ?_
  exact t_M_weakest_B199 (Rlweak g (by decide +kernel) (by decide) (by decide)) hk50 hm50 hk58 hm58 h_x0 (In_w h_x1 (by decide) (by decide)) (In_w h_x2 (by decide) (by decide)) (In_w h_x3 (by decide) (by decide)) (In_w h_x4 (by decide) (by decide)) (In_w h_x5 (by decide) (by decide)) (In_w hx_67_x4 (by decide) (by decide)) hfsr0
theorem t_M_weakest_B189_6c1_7c1 {T : Nat → Nat} {S0 S : AS} (g : Rl T kw_M22 S0 0 0 T S) {x0 : Option Nat} {x1 : Int32} {x2 : Int32} {x3 : Int32} {x4 : Int32} {x5 : Int32} {k50 : AS → Option Nat → Int32 → Int32 → Option (Int32 × AS)} {n50 : Nat} (hk50 : ∀ (S' : AS) (z0 : Option Nat) (z1 : Int32) (z2 : Int32), Rl T kw_M22 S0 0 0 T S' → Tx T 100 z0 → In 0 7 z1 → In 0 96 z2 → (96 + 1 : Int) ≤ z2.toInt + (n50 : Int) → Ho (k50 S' z0 z1 z2) (fun q => Rl T kw_M22 S0 0 0 T q.2 ∧ True)) (hm50 : (96 + 1 : Int) ≤ x2.toInt + ((n50 + 1 : Nat) : Int)) {k58 : AS → Option Nat → Int32 → Int32 → Int32 → Option (Int32 × AS)} {n58 : Nat} (hk58 : ∀ (S' : AS) (z0 : Option Nat) (z1 : Int32) (z2 : Int32) (z3 : Int32), Rl T kw_M22 S0 0 0 T S' → Tx T 100 z0 → In 0 7 z1 → In 0 95 z2 → In 0 96 z3 → (96 + 1 : Int) ≤ z2.toInt + ((n50 + 1 : Nat) : Int) → (96 + 1 : Int) ≤ z3.toInt + (n58 : Int) → Ho (k58 S' z0 z1 z2 z3) (fun q => Rl T kw_M22 S0 0 0 T q.2 ∧ True)) (hm58 : (96 + 1 : Int) ≤ x3.toInt + ((n58 + 1 : Nat) : Int)) (h_x0 : Tx T 100 x0) (h_x1 : In 0 7 x1) (h_x2 : In 0 95 x2) (h_x3 : In 0 95 x3) (h_x4 : In 0 95 x4) (h_x5 : In 0 7 x5) (hx_67_x4 : In 4 4 (sI S 67 x4.toNatClampNeg)) (hfsr0 : SR S0) : Ho (f_M_weakest_B189 k50 k58 S x0 x1 x2 x3 x4 x5 (1 : Int32) (1 : Int32)) (fun q => Rl T kw_M22 S0 0 0 T q.2 ∧ True) := by
  unfold f_M_weakest_B189
  refine r_ifF (by decide) ?_
  refine r_ifF (by decide) ?_
  exact t_M_weakest_B212 (Rlweak g (by decide +kernel) (by decide) (by decide)) hk50 hm50 hk58 hm58 h_x0 (In_w h_x1 (by decide) (by decide)) (In_w h_x2 (by decide) (by decide)) (In_w h_x3 (by decide) (by decide)) hfsr0
theorem t_M_weakest_B189_6c0_7c0 {T : Nat → Nat} {S0 S : AS} (g : Rl T kw_M22 S0 0 0 T S) {x0 : Option Nat} {x1 : Int32} {x2 : Int32} {x3 : Int32} {x4 : Int32} {x5 : Int32} {k50 : AS → Option Nat → Int32 → Int32 → Option (Int32 × AS)} {n50 : Nat} (hk50 : ∀ (S' : AS) (z0 : Option Nat) (z1 : Int32) (z2 : Int32), Rl T kw_M22 S0 0 0 T S' → Tx T 100 z0 → In 0 7 z1 → In 0 96 z2 → (96 + 1 : Int) ≤ z2.toInt + (n50 : Int) → Ho (k50 S' z0 z1 z2) (fun q => Rl T kw_M22 S0 0 0 T q.2 ∧ True)) (hm50 : (96 + 1 : Int) ≤ x2.toInt + ((n50 + 1 : Nat) : Int)) {k58 : AS → Option Nat → Int32 → Int32 → Int32 → Option (Int32 × AS)} {n58 : Nat} (hk58 : ∀ (S' : AS) (z0 : Option Nat) (z1 : Int32) (z2 : Int32) (z3 : Int32), Rl T kw_M22 S0 0 0 T S' → Tx T 100 z0 → In 0 7 z1 → In 0 95 z2 → In 0 96 z3 → (96 + 1 : Int) ≤ z2.toInt + ((n50 + 1 : Nat) : Int) → (96 + 1 : Int) ≤ z3.toInt + (n58 : Int) → Ho (k58 S' z0 z1 z2 z3) (fun q => Rl T kw_M22 S0 0 0 T q.2 ∧ True)) (hm58 : (96 + 1 : Int) ≤ x3.toInt + ((n58 + 1 : Nat) : Int)) (h_x0 : Tx T 100 x0) (h_x1 : In 0 7 x1) (h_x2 : In 0 95 x2) (h_x3 : In 0 95 x3) (h_x4 : In 0 95 x4) (h_x5 : In 0 7 x5) (hx_67_x4 : In 0 3 (sI S 67 x4.toNatClampNeg)) (hfsr0 : SR S0) : Ho (f_M_weakest_B189 k50 k58 S x0 x1 x2 x3 x4 x5 (0 : Int32) (0 : Int32)) (fun q => Rl T kw_M22 S0 0 0 T q.2 ∧ True) := by
  unfold f_M_weakest_B189
  refine r_ifT (by decide) ?_
  exact t_M_weakest_B199 (Rlweak g (by decide +kernel) (by decide) (by decide)) hk50 hm50 hk58 hm58 h_x0 (In_w h_x1 (by decide) (by decide)) (In_w h_x2 (by decide) (by decide)) (In_w h_x3 (by decide) (by decide)) (In_w h_x4 (by decide) (by decide)) (In_w h_x5 (by decide) (by decide)) (In_w hx_67_x4 (by decide) (by decide)) hfsr0
theorem t_M_weakest_B189_6c0_7c1 {T : Nat → Nat} {S0 S : AS} (g : Rl T kw_M22 S0 0 0 T S) {x0 : Option Nat} {x1 : Int32} {x2 : Int32} {x3 : Int32} {x4 : Int32} {x5 : Int32} {k50 : AS → Option Nat → Int32 → Int32 → Option (Int32 × AS)} {n50 : Nat} (hk50 : ∀ (S' : AS) (z0 : Option Nat) (z1 : Int32) (z2 : Int32), Rl T kw_M22 S0 0 0 T S' → Tx T 100 z0 → In 0 7 z1 → In 0 96 z2 → (96 + 1 : Int) ≤ z2.toInt + (n50 : Int) → Ho (k50 S' z0 z1 z2) (fun q => Rl T kw_M22 S0 0 0 T q.2 ∧ True)) (hm50 : (96 + 1 : Int) ≤ x2.toInt + ((n50 + 1 : Nat) : Int)) {k58 : AS → Option Nat → Int32 → Int32 → Int32 → Option (Int32 × AS)} {n58 : Nat} (hk58 : ∀ (S' : AS) (z0 : Option Nat) (z1 : Int32) (z2 : Int32) (z3 : Int32), Rl T kw_M22 S0 0 0 T S' → Tx T 100 z0 → In 0 7 z1 → In 0 95 z2 → In 0 96 z3 → (96 + 1 : Int) ≤ z2.toInt + ((n50 + 1 : Nat) : Int) → (96 + 1 : Int) ≤ z3.toInt + (n58 : Int) → Ho (k58 S' z0 z1 z2 z3) (fun q => Rl T kw_M22 S0 0 0 T q.2 ∧ True)) (hm58 : (96 + 1 : Int) ≤ x3.toInt + ((n58 + 1 : Nat) : Int)) (h_x0 : Tx T 100 x0) (h_x1 : In 0 7 x1) (h_x2 : In 0 95 x2) (h_x3 : In 0 95 x3) (h_x4 : In 0 95 x4) (h_x5 : In 0 7 x5) (hx_67_x4 : In 0 3 (sI S 67 x4.toNatClampNeg)) (hfsr0 : SR S0) : Ho (f_M_weakest_B189 k50 k58 S x0 x1 x2 x3 x4 x5 (0 : Int32) (1 : Int32)) (fun q => Rl T kw_M22 S0 0 0 T q.2 ∧ True) := by
  unfold f_M_weakest_B189
  refine r_ifT (by decide) ?_
  exact t_M_weakest_B199 (Rlweak g (by decide +kernel) (by decide) (by decide)) hk50 hm50 hk58 hm58 h_x0 (In_w h_x1 (by decide) (by decide)) (In_w h_x2 (by decide) (by decide)) (In_w h_x3 (by decide) (by decide)) (In_w h_x4 (by decide) (by decide)) (In_w h_x5 (by decide) (by decide)) (In_w hx_67_x4 (by decide) (by decide)) hfsr0
theorem t_M_weakest_B186_6c1_7c1_8t100 {T : Nat → Nat} {S0 S : AS} (g : Rl T kw_M22 S0 0 0 T S) {x0 : Option Nat} {x1 : Int32} {x2 : Int32} {x3 : Int32} {x4 : Int32} {x5 : Int32} {y0 : Option Nat} {y1 : Int32} {y2 : Int32} {k50 : AS → Option Nat → Int32 → Int32 → Option (Int32 × AS)} {n50 : Nat} (hk50 : ∀ (S' : AS) (z0 : Option Nat) (z1 : Int32) (z2 : Int32), Rl T kw_M22 S0 0 0 T S' → Tx T 100 z0 → In 0 7 z1 → In 0 96 z2 → (96 + 1 : Int) ≤ z2.toInt + (n50 : Int) → Ho (k50 S' z0 z1 z2) (fun q => Rl T kw_M22 S0 0 0 T q.2 ∧ True)) (hm50 : (96 + 1 : Int) ≤ x2.toInt + ((n50 + 1 : Nat) : Int)) {k58 : AS → Option Nat → Int32 → Int32 → Int32 → Option (Int32 × AS)} {n58 : Nat} (hk58 : ∀ (S' : AS) (z0 : Option Nat) (z1 : Int32) (z2 : Int32) (z3 : Int32), Rl T kw_M22 S0 0 0 T S' → Tx T 100 z0 → In 0 7 z1 → In 0 95 z2 → In 0 96 z3 → (96 + 1 : Int) ≤ z2.toInt + ((n50 + 1 : Nat) : Int) → (96 + 1 : Int) ≤ z3.toInt + (n58 : Int) → Ho (k58 S' z0 z1 z2 z3) (fun q => Rl T kw_M22 S0 0 0 T q.2 ∧ True)) (hm58 : (96 + 1 : Int) ≤ x3.toInt + ((n58 + 1 : Nat) : Int)) (h_x0 : Tx T 100 x0) (h_x1 : In 0 7 x1) (h_x2 : In 0 95 x2) (h_x3 : In 0 95 x3) (h_x4 : In 0 95 x4) (h_x5 : In 0 7 x5) (h_y0 : Tx T 100 y0) (h_y1 : In (-1) 11 y1) (h_y2 : In 0 7 y2) (hx_67_x4 : In 4 4 (sI S 67 x4.toNatClampNeg)) (hfsr0 : SR S0) : Ho (f_M_weakest_B186 k50 k58 S x0 x1 x2 x3 x4 x5 (1 : Int32) (1 : Int32) y0 y1 y2) (fun q => Rl T kw_M22 S0 0 0 T q.2 ∧ True) := by
  unfold f_M_weakest_B186
  refine r_rv g.1 h_y0 rfl ?_
  refine r_bind (t_M_meet g.1 h_y0 (In_w h_y1 (by decide) (by decide)) (In_w h_y2 (by decide) (by decide))) (fun s1 h2 => ?_)
  have g3 : Rl T kw_M22 S0 0 0 T s1 := Rltrans g h2 (by decide +kernel)
  have f4 : In 4 4 (sI s1 67 x4.toNatClampNeg) := In_fr h2 h_x0 (j := 11) rfl rfl (by decide) (by decide +kernel) hx_67_x4
  exact t_M_weakest_B189_6c1_7c1 (Rlweak g3 (by decide +kernel) (by decide) (by decide)) hk50 hm50 hk58 hm58 h_x0 (In_w h_x1 (by decide) (by decide)) (In_w h_x2 (by decide) (by decide)) (In_w h_x3 (by decide) (by decide)) (In_w h_x4 (by decide) (by decide)) (In_w h_x5 (by decide) (by decide)) (In_w f4 (by decide) (by decide)) hfsr0
theorem t_M_weakest_B186_6c0_7c0_8t100 {T : Nat → Nat} {S0 S : AS} (g : Rl T kw_M22 S0 0 0 T S) {x0 : Option Nat} {x1 : Int32} {x2 : Int32} {x3 : Int32} {x4 : Int32} {x5 : Int32} {y0 : Option Nat} {y1 : Int32} {y2 : Int32} {k50 : AS → Option Nat → Int32 → Int32 → Option (Int32 × AS)} {n50 : Nat} (hk50 : ∀ (S' : AS) (z0 : Option Nat) (z1 : Int32) (z2 : Int32), Rl T kw_M22 S0 0 0 T S' → Tx T 100 z0 → In 0 7 z1 → In 0 96 z2 → (96 + 1 : Int) ≤ z2.toInt + (n50 : Int) → Ho (k50 S' z0 z1 z2) (fun q => Rl T kw_M22 S0 0 0 T q.2 ∧ True)) (hm50 : (96 + 1 : Int) ≤ x2.toInt + ((n50 + 1 : Nat) : Int)) {k58 : AS → Option Nat → Int32 → Int32 → Int32 → Option (Int32 × AS)} {n58 : Nat} (hk58 : ∀ (S' : AS) (z0 : Option Nat) (z1 : Int32) (z2 : Int32) (z3 : Int32), Rl T kw_M22 S0 0 0 T S' → Tx T 100 z0 → In 0 7 z1 → In 0 95 z2 → In 0 96 z3 → (96 + 1 : Int) ≤ z2.toInt + ((n50 + 1 : Nat) : Int) → (96 + 1 : Int) ≤ z3.toInt + (n58 : Int) → Ho (k58 S' z0 z1 z2 z3) (fun q => Rl T kw_M22 S0 0 0 T q.2 ∧ True)) (hm58 : (96 + 1 : Int) ≤ x3.toInt + ((n58 + 1 : Nat) : Int)) (h_x0 : Tx T 100 x0) (h_x1 : In 0 7 x1) (h_x2 : In 0 95 x2) (h_x3 : In 0 95 x3) (h_x4 : In 0 95 x4) (h_x5 : In 0 7 x5) (h_y0 : Tx T 100 y0) (h_y1 : In (-1) 11 y1) (h_y2 : In 0 7 y2) (hx_67_x4 : In 0 3 (sI S 67 x4.toNatClampNeg)) (hfsr0 : SR S0) : Ho (f_M_weakest_B186 k50 k58 S x0 x1 x2 x3 x4 x5 (0 : Int32) (0 : Int32) y0 y1 y2) (fun q => Rl T kw_M22 S0 0 0 T q.2 ∧ True) := by
  unfold f_M_weakest_B186
  refine r_rv g.1 h_y0 rfl ?_
  refine r_bind (t_M_meet g.1 h_y0 (In_w h_y1 (by decide) (by decide)) (In_w h_y2 (by decide) (by decide))) (fun s1 h2 => ?_)
  have g3 : Rl T kw_M22 S0 0 0 T s1 := Rltrans g h2 (by decide +kernel)
  have f4 : In 0 3 (sI s1 67 x4.toNatClampNeg) := In_fr h2 h_x0 (j := 11) rfl rfl (by decide) (by decide +kernel) hx_67_x4
  exact t_M_weakest_B189_6c0_7c0 (Rlweak g3 (by decide +kernel) (by decide) (by decide)) hk50 hm50 hk58 hm58 h_x0 (In_w h_x1 (by decide) (by decide)) (In_w h_x2 (by decide) (by decide)) (In_w h_x3 (by decide) (by decide)) (In_w h_x4 (by decide) (by decide)) (In_w h_x5 (by decide) (by decide)) (In_w f4 (by decide) (by decide)) hfsr0
theorem t_M_weakest_B186_6c0_7c1_8t100 {T : Nat → Nat} {S0 S : AS} (g : Rl T kw_M22 S0 0 0 T S) {x0 : Option Nat} {x1 : Int32} {x2 : Int32} {x3 : Int32} {x4 : Int32} {x5 : Int32} {y0 : Option Nat} {y1 : Int32} {y2 : Int32} {k50 : AS → Option Nat → Int32 → Int32 → Option (Int32 × AS)} {n50 : Nat} (hk50 : ∀ (S' : AS) (z0 : Option Nat) (z1 : Int32) (z2 : Int32), Rl T kw_M22 S0 0 0 T S' → Tx T 100 z0 → In 0 7 z1 → In 0 96 z2 → (96 + 1 : Int) ≤ z2.toInt + (n50 : Int) → Ho (k50 S' z0 z1 z2) (fun q => Rl T kw_M22 S0 0 0 T q.2 ∧ True)) (hm50 : (96 + 1 : Int) ≤ x2.toInt + ((n50 + 1 : Nat) : Int)) {k58 : AS → Option Nat → Int32 → Int32 → Int32 → Option (Int32 × AS)} {n58 : Nat} (hk58 : ∀ (S' : AS) (z0 : Option Nat) (z1 : Int32) (z2 : Int32) (z3 : Int32), Rl T kw_M22 S0 0 0 T S' → Tx T 100 z0 → In 0 7 z1 → In 0 95 z2 → In 0 96 z3 → (96 + 1 : Int) ≤ z2.toInt + ((n50 + 1 : Nat) : Int) → (96 + 1 : Int) ≤ z3.toInt + (n58 : Int) → Ho (k58 S' z0 z1 z2 z3) (fun q => Rl T kw_M22 S0 0 0 T q.2 ∧ True)) (hm58 : (96 + 1 : Int) ≤ x3.toInt + ((n58 + 1 : Nat) : Int)) (h_x0 : Tx T 100 x0) (h_x1 : In 0 7 x1) (h_x2 : In 0 95 x2) (h_x3 : In 0 95 x3) (h_x4 : In 0 95 x4) (h_x5 : In 0 7 x5) (h_y0 : Tx T 100 y0) (h_y1 : In (-1) 11 y1) (h_y2 : In 0 7 y2) (hx_67_x4 : In 0 3 (sI S 67 x4.toNatClampNeg)) (hfsr0 : SR S0) : Ho (f_M_weakest_B186 k50 k58 S x0 x1 x2 x3 x4 x5 (0 : Int32) (1 : Int32) y0 y1 y2) (fun q => Rl T kw_M22 S0 0 0 T q.2 ∧ True) := by
  unfold f_M_weakest_B186
  refine r_rv g.1 h_y0 rfl ?_
  refine r_bind (t_M_meet g.1 h_y0 (In_w h_y1 (by decide) (by decide)) (In_w h_y2 (by decide) (by decide))) (fun s1 h2 => ?_)
  have g3 : Rl T kw_M22 S0 0 0 T s1 := Rltrans g h2 (by decide +kernel)
  have f4 : In 0 3 (sI s1 67 x4.toNatClampNeg) := In_fr h2 h_x0 (j := 11) rfl rfl (by decide) (by decide +kernel) hx_67_x4
  exact t_M_weakest_B189_6c0_7c1 (Rlweak g3 (by decide +kernel) (by decide) (by decide)) hk50 hm50 hk58 hm58 h_x0 (In_w h_x1 (by decide) (by decide)) (In_w h_x2 (by decide) (by decide)) (In_w h_x3 (by decide) (by decide)) (In_w h_x4 (by decide) (by decide)) (In_w h_x5 (by decide) (by decide)) (In_w f4 (by decide) (by decide)) hfsr0
theorem t_M_weakest_B151_6c1_7c1 {T : Nat → Nat} {S0 S : AS} (g : Rl T kw_M22 S0 0 0 T S) {x0 : Option Nat} {x1 : Int32} {x2 : Int32} {x3 : Int32} {x4 : Int32} {x5 : Int32} {k50 : AS → Option Nat → Int32 → Int32 → Option (Int32 × AS)} {n50 : Nat} (hk50 : ∀ (S' : AS) (z0 : Option Nat) (z1 : Int32) (z2 : Int32), Rl T kw_M22 S0 0 0 T S' → Tx T 100 z0 → In 0 7 z1 → In 0 96 z2 → (96 + 1 : Int) ≤ z2.toInt + (n50 : Int) → Ho (k50 S' z0 z1 z2) (fun q => Rl T kw_M22 S0 0 0 T q.2 ∧ True)) (hm50 : (96 + 1 : Int) ≤ x2.toInt + ((n50 + 1 : Nat) : Int)) {k58 : AS → Option Nat → Int32 → Int32 → Int32 → Option (Int32 × AS)} {n58 : Nat} (hk58 : ∀ (S' : AS) (z0 : Option Nat) (z1 : Int32) (z2 : Int32) (z3 : Int32), Rl T kw_M22 S0 0 0 T S' → Tx T 100 z0 → In 0 7 z1 → In 0 95 z2 → In 0 96 z3 → (96 + 1 : Int) ≤ z2.toInt + ((n50 + 1 : Nat) : Int) → (96 + 1 : Int) ≤ z3.toInt + (n58 : Int) → Ho (k58 S' z0 z1 z2 z3) (fun q => Rl T kw_M22 S0 0 0 T q.2 ∧ True)) (hm58 : (96 + 1 : Int) ≤ x3.toInt + ((n58 + 1 : Nat) : Int)) (h_x0 : Tx T 100 x0) (h_x1 : In 0 7 x1) (h_x2 : In 0 95 x2) (h_x3 : In 0 95 x3) (h_x4 : In 0 95 x4) (h_x5 : In 0 7 x5) (hx_67_x4 : In 4 4 (sI S 67 x4.toNatClampNeg)) (hfsr0 : SR S0) : Ho (f_M_weakest_B151 k50 k58 S x0 x1 x2 x3 x4 x5 (1 : Int32) (1 : Int32)) (fun q => Rl T kw_M22 S0 0 0 T q.2 ∧ True) := by
  unfold f_M_weakest_B151
  refine r_gR g.1 h_x0 rfl rfl (fun v8 h1 => ?_)
  refine r_aIs g.1 h1 rfl (p := 70) rfl rfl (In_w h_x4 (by decide) (by decide) : In 0 95 x4) (by decide) (fun v9 b2 e3 => ?_)
  have q4 : In (-1) 11 v9 := In_w (SR_y (SR_fr hfsr0 g h_x0 (by decide +kernel) (by decide +kernel) (by decide +kernel) (by decide +kernel)) (In_w h_x4 (by decide) (by decide) : In 0 107 x4) hx_67_x4 (by decide) e3) (by decide) (by decide)
  refine r_gR g.1 h_x0 rfl rfl (fun v10 h5 => ?_)
  refine r_aIs g.1 h5 rfl (p := 67) rfl rfl (In_w h_x4 (by decide) (by decide) : In 0 95 x4) (by decide) (fun v11 b6 e7 => ?_)
  have q8 : In 0 6 v11 := b6 _ _ rfl
  have q9 : In 4 4 v11 := In_w (In_read e7 hx_67_x4) (by decide) (by decide)
  refine r_if (fun c10 => ?_) (fun c10 => ?_)
  · have q11 : In 4 0 v11 := In_w (In_glb q9 (In_eq c10 (by decide : In 0 0 (0 : Int32)))) (by decide) (by decide)
    exact absurd q11.1 (by have := q11.2; omega)
  · exact t_M_weakest_B186_6c1_7c1_8t100 (Rlweak g (by decide +kernel) (by decide) (by decide)) hk50 hm50 hk58 hm58 h_x0 (In_w h_x1 (by decide) (by decide)) (In_w h_x2 (by decide) (by decide)) (In_w h_x3 (by decide) (by decide)) (In_w h_x4 (by decide) (by decide)) (In_w h_x5 (by decide) (by decide)) h_x0 (In_w q4 (by decide) (by decide)) (In_w h_x5 (by decide) (by decide)) (In_w (In_cell e7 q9) (by decide) (by decide)) hfsr0
theorem t_M_weakest_B151_6c0_7c0 {T : Nat → Nat} {S0 S : AS} (g : Rl T kw_M22 S0 0 0 T S) {x0 : Option Nat} {x1 : Int32} {x2 : Int32} {x3 : Int32} {x4 : Int32} {x5 : Int32} {k50 : AS → Option Nat → Int32 → Int32 → Option (Int32 × AS)} {n50 : Nat} (hk50 : ∀ (S' : AS) (z0 : Option Nat) (z1 : Int32) (z2 : Int32), Rl T kw_M22 S0 0 0 T S' → Tx T 100 z0 → In 0 7 z1 → In 0 96 z2 → (96 + 1 : Int) ≤ z2.toInt + (n50 : Int) → Ho (k50 S' z0 z1 z2) (fun q => Rl T kw_M22 S0 0 0 T q.2 ∧ True)) (hm50 : (96 + 1 : Int) ≤ x2.toInt + ((n50 + 1 : Nat) : Int)) {k58 : AS → Option Nat → Int32 → Int32 → Int32 → Option (Int32 × AS)} {n58 : Nat} (hk58 : ∀ (S' : AS) (z0 : Option Nat) (z1 : Int32) (z2 : Int32) (z3 : Int32), Rl T kw_M22 S0 0 0 T S' → Tx T 100 z0 → In 0 7 z1 → In 0 95 z2 → In 0 96 z3 → (96 + 1 : Int) ≤ z2.toInt + ((n50 + 1 : Nat) : Int) → (96 + 1 : Int) ≤ z3.toInt + (n58 : Int) → Ho (k58 S' z0 z1 z2 z3) (fun q => Rl T kw_M22 S0 0 0 T q.2 ∧ True)) (hm58 : (96 + 1 : Int) ≤ x3.toInt + ((n58 + 1 : Nat) : Int)) (h_x0 : Tx T 100 x0) (h_x1 : In 0 7 x1) (h_x2 : In 0 95 x2) (h_x3 : In 0 95 x3) (h_x4 : In 0 95 x4) (h_x5 : In 0 7 x5) (hx_67_x4 : In 0 3 (sI S 67 x4.toNatClampNeg)) (hfsr0 : SR S0) : Ho (f_M_weakest_B151 k50 k58 S x0 x1 x2 x3 x4 x5 (0 : Int32) (0 : Int32)) (fun q => Rl T kw_M22 S0 0 0 T q.2 ∧ True) := by
  unfold f_M_weakest_B151
  refine r_gR g.1 h_x0 rfl rfl (fun v8 h1 => ?_)
  refine r_aIs g.1 h1 rfl (p := 70) rfl rfl (In_w h_x4 (by decide) (by decide) : In 0 95 x4) (by decide) (fun v9 b2 e3 => ?_)
  have q4 : In (-1) 11 v9 := In_w (SR_y (SR_fr hfsr0 g h_x0 (by decide +kernel) (by decide +kernel) (by decide +kernel) (by decide +kernel)) (In_w h_x4 (by decide) (by decide) : In 0 107 x4) hx_67_x4 (by decide) e3) (by decide) (by decide)
  refine r_gR g.1 h_x0 rfl rfl (fun v10 h5 => ?_)
  refine r_aIs g.1 h5 rfl (p := 67) rfl rfl (In_w h_x4 (by decide) (by decide) : In 0 95 x4) (by decide) (fun v11 b6 e7 => ?_)
  have q8 : In 0 6 v11 := b6 _ _ rfl
  have q9 : In 0 3 v11 := In_w (In_read e7 hx_67_x4) (by decide) (by decide)
  refine r_if (fun c10 => ?_) (fun c10 => ?_)
  · have q11 : In 0 0 v11 := In_w (In_eq c10 (by decide : In 0 0 (0 : Int32))) (by decide) (by decide)
    refine r_gR g.1 h_x0 rfl rfl (fun v12 h12 => ?_)
    refine r_aIs g.1 h12 rfl (p := 68) rfl rfl (In_w h_x4 (by decide) (by decide) : In 0 95 x4) (by decide) (fun v13 b13 e14 => ?_)
    have q15 : In 0 20 v13 := b13 _ _ rfl
    have q16 : In 0 2 v13 := In_w (SR_a0 (SR_fr hfsr0 g h_x0 (by decide +kernel) (by decide +kernel) (by decide +kernel) (by decide +kernel)) (In_w h_x4 (by decide) (by decide) : In 0 107 x4) (In_cell e7 q11) e14) (by decide) (by decide)
    exact t_M_weakest_B186_6c0_7c0_8t100 (Rlweak g (by decide +kernel) (by decide) (by decide)) hk50 hm50 hk58 hm58 h_x0 (In_w h_x1 (by decide) (by decide)) (In_w h_x2 (by decide) (by decide)) (In_w h_x3 (by decide) (by decide)) (In_w h_x4 (by decide) (by decide)) (In_w h_x5 (by decide) (by decide)) h_x0 (In_w q4 (by decide) (by decide)) (In_w (In_w (In_or7 (In_w h_x5 (by decide) (by decide)) (In_w (In_w (In_shl2 (In_w q16 (by decide) (by decide))) (by decide) (by decide) : In 1 4 ((1 : Int32) <<< (v13 &&& (31 : Int32)))) (by decide) (by decide))) (by decide) (by decide) : In 0 7 (x5 ||| ((1 : Int32) <<< (v13 &&& (31 : Int32))))) (by decide) (by decide)) (In_w (In_cell e7 q11) (by decide) (by decide)) hfsr0
  · have q17 : In 1 3 v11 := In_w (In_neL c10 q9 (by decide)) (by decide) (by decide)
    exact t_M_weakest_B186_6c0_7c0_8t100 (Rlweak g (by decide +kernel) (by decide) (by decide)) hk50 hm50 hk58 hm58 h_x0 (In_w h_x1 (by decide) (by decide)) (In_w h_x2 (by decide) (by decide)) (In_w h_x3 (by decide) (by decide)) (In_w h_x4 (by decide) (by decide)) (In_w h_x5 (by decide) (by decide)) h_x0 (In_w q4 (by decide) (by decide)) (In_w h_x5 (by decide) (by decide)) (In_w (In_cell e7 q17) (by decide) (by decide)) hfsr0
theorem t_M_weakest_B151_6c0_7c1 {T : Nat → Nat} {S0 S : AS} (g : Rl T kw_M22 S0 0 0 T S) {x0 : Option Nat} {x1 : Int32} {x2 : Int32} {x3 : Int32} {x4 : Int32} {x5 : Int32} {k50 : AS → Option Nat → Int32 → Int32 → Option (Int32 × AS)} {n50 : Nat} (hk50 : ∀ (S' : AS) (z0 : Option Nat) (z1 : Int32) (z2 : Int32), Rl T kw_M22 S0 0 0 T S' → Tx T 100 z0 → In 0 7 z1 → In 0 96 z2 → (96 + 1 : Int) ≤ z2.toInt + (n50 : Int) → Ho (k50 S' z0 z1 z2) (fun q => Rl T kw_M22 S0 0 0 T q.2 ∧ True)) (hm50 : (96 + 1 : Int) ≤ x2.toInt + ((n50 + 1 : Nat) : Int)) {k58 : AS → Option Nat → Int32 → Int32 → Int32 → Option (Int32 × AS)} {n58 : Nat} (hk58 : ∀ (S' : AS) (z0 : Option Nat) (z1 : Int32) (z2 : Int32) (z3 : Int32), Rl T kw_M22 S0 0 0 T S' → Tx T 100 z0 → In 0 7 z1 → In 0 95 z2 → In 0 96 z3 → (96 + 1 : Int) ≤ z2.toInt + ((n50 + 1 : Nat) : Int) → (96 + 1 : Int) ≤ z3.toInt + (n58 : Int) → Ho (k58 S' z0 z1 z2 z3) (fun q => Rl T kw_M22 S0 0 0 T q.2 ∧ True)) (hm58 : (96 + 1 : Int) ≤ x3.toInt + ((n58 + 1 : Nat) : Int)) (h_x0 : Tx T 100 x0) (h_x1 : In 0 7 x1) (h_x2 : In 0 95 x2) (h_x3 : In 0 95 x3) (h_x4 : In 0 95 x4) (h_x5 : In 0 7 x5) (hx_67_x4 : In 0 3 (sI S 67 x4.toNatClampNeg)) (hfsr0 : SR S0) : Ho (f_M_weakest_B151 k50 k58 S x0 x1 x2 x3 x4 x5 (0 : Int32) (1 : Int32)) (fun q => Rl T kw_M22 S0 0 0 T q.2 ∧ True) := by
  unfold f_M_weakest_B151
  refine r_gR g.1 h_x0 rfl rfl (fun v8 h1 => ?_)
  refine r_aIs g.1 h1 rfl (p := 70) rfl rfl (In_w h_x4 (by decide) (by decide) : In 0 95 x4) (by decide) (fun v9 b2 e3 => ?_)
  have q4 : In (-1) 11 v9 := In_w (SR_y (SR_fr hfsr0 g h_x0 (by decide +kernel) (by decide +kernel) (by decide +kernel) (by decide +kernel)) (In_w h_x4 (by decide) (by decide) : In 0 107 x4) hx_67_x4 (by decide) e3) (by decide) (by decide)
  refine r_gR g.1 h_x0 rfl rfl (fun v10 h5 => ?_)
  refine r_aIs g.1 h5 rfl (p := 67) rfl rfl (In_w h_x4 (by decide) (by decide) : In 0 95 x4) (by decide) (fun v11 b6 e7 => ?_)
  have q8 : In 0 6 v11 := b6 _ _ rfl
  have q9 : In 0 3 v11 := In_w (In_read e7 hx_67_x4) (by decide) (by decide)
  refine r_if (fun c10 => ?_) (fun c10 => ?_)
  · have q11 : In 0 0 v11 := In_w (In_eq c10 (by decide : In 0 0 (0 : Int32))) (by decide) (by decide)
    refine r_gR g.1 h_x0 rfl rfl (fun v12 h12 => ?_)
    refine r_aIs g.1 h12 rfl (p := 68) rfl rfl (In_w h_x4 (by decide) (by decide) : In 0 95 x4) (by decide) (fun v13 b13 e14 => ?_)
    have q15 : In 0 20 v13 := b13 _ _ rfl
    have q16 : In 0 2 v13 := In_w (SR_a0 (SR_fr hfsr0 g h_x0 (by decide +kernel) (by decide +kernel) (by decide +kernel) (by decide +kernel)) (In_w h_x4 (by decide) (by decide) : In 0 107 x4) (In_cell e7 q11) e14) (by decide) (by decide)
    exact t_M_weakest_B186_6c0_7c1_8t100 (Rlweak g (by decide +kernel) (by decide) (by decide)) hk50 hm50 hk58 hm58 h_x0 (In_w h_x1 (by decide) (by decide)) (In_w h_x2 (by decide) (by decide)) (In_w h_x3 (by decide) (by decide)) (In_w h_x4 (by decide) (by decide)) (In_w h_x5 (by decide) (by decide)) h_x0 (In_w q4 (by decide) (by decide)) (In_w (In_w (In_or7 (In_w h_x5 (by decide) (by decide)) (In_w (In_w (In_shl2 (In_w q16 (by decide) (by decide))) (by decide) (by decide) : In 1 4 ((1 : Int32) <<< (v13 &&& (31 : Int32)))) (by decide) (by decide))) (by decide) (by decide) : In 0 7 (x5 ||| ((1 : Int32) <<< (v13 &&& (31 : Int32))))) (by decide) (by decide)) (In_w (In_cell e7 q11) (by decide) (by decide)) hfsr0
  · have q17 : In 1 3 v11 := In_w (In_neL c10 q9 (by decide)) (by decide) (by decide)
    exact t_M_weakest_B186_6c0_7c1_8t100 (Rlweak g (by decide +kernel) (by decide) (by decide)) hk50 hm50 hk58 hm58 h_x0 (In_w h_x1 (by decide) (by decide)) (In_w h_x2 (by decide) (by decide)) (In_w h_x3 (by decide) (by decide)) (In_w h_x4 (by decide) (by decide)) (In_w h_x5 (by decide) (by decide)) h_x0 (In_w q4 (by decide) (by decide)) (In_w h_x5 (by decide) (by decide)) (In_w (In_cell e7 q17) (by decide) (by decide)) hfsr0
theorem t_M_weakest_B139_6c1_7c0 {T : Nat → Nat} {S0 S : AS} (g : Rl T kw_M22 S0 0 0 T S) {x0 : Option Nat} {x1 : Int32} {x2 : Int32} {x3 : Int32} {x4 : Int32} {x5 : Int32} {k50 : AS → Option Nat → Int32 → Int32 → Option (Int32 × AS)} {n50 : Nat} (hk50 : ∀ (S' : AS) (z0 : Option Nat) (z1 : Int32) (z2 : Int32), Rl T kw_M22 S0 0 0 T S' → Tx T 100 z0 → In 0 7 z1 → In 0 96 z2 → (96 + 1 : Int) ≤ z2.toInt + (n50 : Int) → Ho (k50 S' z0 z1 z2) (fun q => Rl T kw_M22 S0 0 0 T q.2 ∧ True)) (hm50 : (96 + 1 : Int) ≤ x2.toInt + ((n50 + 1 : Nat) : Int)) {k58 : AS → Option Nat → Int32 → Int32 → Int32 → Option (Int32 × AS)} {n58 : Nat} (hk58 : ∀ (S' : AS) (z0 : Option Nat) (z1 : Int32) (z2 : Int32) (z3 : Int32), Rl T kw_M22 S0 0 0 T S' → Tx T 100 z0 → In 0 7 z1 → In 0 95 z2 → In 0 96 z3 → (96 + 1 : Int) ≤ z2.toInt + ((n50 + 1 : Nat) : Int) → (96 + 1 : Int) ≤ z3.toInt + (n58 : Int) → Ho (k58 S' z0 z1 z2 z3) (fun q => Rl T kw_M22 S0 0 0 T q.2 ∧ True)) (hm58 : (96 + 1 : Int) ≤ x3.toInt + ((n58 + 1 : Nat) : Int)) (h_x0 : Tx T 100 x0) (h_x1 : In 0 7 x1) (h_x2 : In 0 95 x2) (h_x3 : In 0 95 x3) (h_x4 : In 0 95 x4) (h_x5 : In 0 7 x5) (hx_67_x4 : In 4 4 (sI S 67 x4.toNatClampNeg)) (hfsr0 : SR S0) : Ho (f_M_weakest_B139 k50 k58 S x0 x1 x2 x3 x4 x5 (1 : Int32) (0 : Int32)) (fun q => Rl T kw_M22 S0 0 0 T q.2 ∧ True) := by
  unfold f_M_weakest_B139
  refine r_ifF (by decide) ?_
  refine r_ifT (by decide) ?_
  exact t_M_weakest_B189_6c1_7c0 (Rlweak g (by decide +kernel) (by decide) (by decide)) hk50 hm50 hk58 hm58 h_x0 (In_w h_x1 (by decide) (by decide)) (In_w h_x2 (by decide) (by decide)) (In_w h_x3 (by decide) (by decide)) (In_w h_x4 (by decide) (by decide)) (In_w h_x5 (by decide) (by decide)) (In_w hx_67_x4 (by decide) (by decide)) hfsr0
theorem t_M_weakest_B139_6c1_7c1 {T : Nat → Nat} {S0 S : AS} (g : Rl T kw_M22 S0 0 0 T S) {x0 : Option Nat} {x1 : Int32} {x2 : Int32} {x3 : Int32} {x4 : Int32} {x5 : Int32} {k50 : AS → Option Nat → Int32 → Int32 → Option (Int32 × AS)} {n50 : Nat} (hk50 : ∀ (S' : AS) (z0 : Option Nat) (z1 : Int32) (z2 : Int32), Rl T kw_M22 S0 0 0 T S' → Tx T 100 z0 → In 0 7 z1 → In 0 96 z2 → (96 + 1 : Int) ≤ z2.toInt + (n50 : Int) → Ho (k50 S' z0 z1 z2) (fun q => Rl T kw_M22 S0 0 0 T q.2 ∧ True)) (hm50 : (96 + 1 : Int) ≤ x2.toInt + ((n50 + 1 : Nat) : Int)) {k58 : AS → Option Nat → Int32 → Int32 → Int32 → Option (Int32 × AS)} {n58 : Nat} (hk58 : ∀ (S' : AS) (z0 : Option Nat) (z1 : Int32) (z2 : Int32) (z3 : Int32), Rl T kw_M22 S0 0 0 T S' → Tx T 100 z0 → In 0 7 z1 → In 0 95 z2 → In 0 96 z3 → (96 + 1 : Int) ≤ z2.toInt + ((n50 + 1 : Nat) : Int) → (96 + 1 : Int) ≤ z3.toInt + (n58 : Int) → Ho (k58 S' z0 z1 z2 z3) (fun q => Rl T kw_M22 S0 0 0 T q.2 ∧ True)) (hm58 : (96 + 1 : Int) ≤ x3.toInt + ((n58 + 1 : Nat) : Int)) (h_x0 : Tx T 100 x0) (h_x1 : In 0 7 x1) (h_x2 : In 0 95 x2) (h_x3 : In 0 95 x3) (h_x4 : In 0 95 x4) (h_x5 : In 0 7 x5) (hx_67_x4 : In 4 4 (sI S 67 x4.toNatClampNeg)) (hfsr0 : SR S0) : Ho (f_M_weakest_B139 k50 k58 S x0 x1 x2 x3 x4 x5 (1 : Int32) (1 : Int32)) (fun q => Rl T kw_M22 S0 0 0 T q.2 ∧ True) := by
  unfold f_M_weakest_B139
  refine r_ifF (by decide) ?_
  refine r_ifF (by decide) ?_
  exact t_M_weakest_B151_6c1_7c1 (Rlweak g (by decide +kernel) (by decide) (by decide)) hk50 hm50 hk58 hm58 h_x0 (In_w h_x1 (by decide) (by decide)) (In_w h_x2 (by decide) (by decide)) (In_w h_x3 (by decide) (by decide)) (In_w h_x4 (by decide) (by decide)) (In_w h_x5 (by decide) (by decide)) (In_w hx_67_x4 (by decide) (by decide)) hfsr0
theorem t_M_weakest_B139_6c0_7c0 {T : Nat → Nat} {S0 S : AS} (g : Rl T kw_M22 S0 0 0 T S) {x0 : Option Nat} {x1 : Int32} {x2 : Int32} {x3 : Int32} {x4 : Int32} {x5 : Int32} {k50 : AS → Option Nat → Int32 → Int32 → Option (Int32 × AS)} {n50 : Nat} (hk50 : ∀ (S' : AS) (z0 : Option Nat) (z1 : Int32) (z2 : Int32), Rl T kw_M22 S0 0 0 T S' → Tx T 100 z0 → In 0 7 z1 → In 0 96 z2 → (96 + 1 : Int) ≤ z2.toInt + (n50 : Int) → Ho (k50 S' z0 z1 z2) (fun q => Rl T kw_M22 S0 0 0 T q.2 ∧ True)) (hm50 : (96 + 1 : Int) ≤ x2.toInt + ((n50 + 1 : Nat) : Int)) {k58 : AS → Option Nat → Int32 → Int32 → Int32 → Option (Int32 × AS)} {n58 : Nat} (hk58 : ∀ (S' : AS) (z0 : Option Nat) (z1 : Int32) (z2 : Int32) (z3 : Int32), Rl T kw_M22 S0 0 0 T S' → Tx T 100 z0 → In 0 7 z1 → In 0 95 z2 → In 0 96 z3 → (96 + 1 : Int) ≤ z2.toInt + ((n50 + 1 : Nat) : Int) → (96 + 1 : Int) ≤ z3.toInt + (n58 : Int) → Ho (k58 S' z0 z1 z2 z3) (fun q => Rl T kw_M22 S0 0 0 T q.2 ∧ True)) (hm58 : (96 + 1 : Int) ≤ x3.toInt + ((n58 + 1 : Nat) : Int)) (h_x0 : Tx T 100 x0) (h_x1 : In 0 7 x1) (h_x2 : In 0 95 x2) (h_x3 : In 0 95 x3) (h_x4 : In 0 95 x4) (h_x5 : In 0 7 x5) (hx_67_x4 : In 0 3 (sI S 67 x4.toNatClampNeg)) (hfsr0 : SR S0) : Ho (f_M_weakest_B139 k50 k58 S x0 x1 x2 x3 x4 x5 (0 : Int32) (0 : Int32)) (fun q => Rl T kw_M22 S0 0 0 T q.2 ∧ True) := by
  unfold f_M_weakest_B139
  refine r_ifT (by decide) ?_
  exact t_M_weakest_B151_6c0_7c0 (Rlweak g (by decide +kernel) (by decide) (by decide)) hk50 hm50 hk58 hm58 h_x0 (In_w h_x1 (by decide) (by decide)) (In_w h_x2 (by decide) (by decide)) (In_w h_x3 (by decide) (by decide)) (In_w h_x4 (by decide) (by decide)) (In_w h_x5 (by decide) (by decide)) (In_w hx_67_x4 (by decide) (by decide)) hfsr0
theorem t_M_weakest_B139_6c0_7c1 {T : Nat → Nat} {S0 S : AS} (g : Rl T kw_M22 S0 0 0 T S) {x0 : Option Nat} {x1 : Int32} {x2 : Int32} {x3 : Int32} {x4 : Int32} {x5 : Int32} {k50 : AS → Option Nat → Int32 → Int32 → Option (Int32 × AS)} {n50 : Nat} (hk50 : ∀ (S' : AS) (z0 : Option Nat) (z1 : Int32) (z2 : Int32), Rl T kw_M22 S0 0 0 T S' → Tx T 100 z0 → In 0 7 z1 → In 0 96 z2 → (96 + 1 : Int) ≤ z2.toInt + (n50 : Int) → Ho (k50 S' z0 z1 z2) (fun q => Rl T kw_M22 S0 0 0 T q.2 ∧ True)) (hm50 : (96 + 1 : Int) ≤ x2.toInt + ((n50 + 1 : Nat) : Int)) {k58 : AS → Option Nat → Int32 → Int32 → Int32 → Option (Int32 × AS)} {n58 : Nat} (hk58 : ∀ (S' : AS) (z0 : Option Nat) (z1 : Int32) (z2 : Int32) (z3 : Int32), Rl T kw_M22 S0 0 0 T S' → Tx T 100 z0 → In 0 7 z1 → In 0 95 z2 → In 0 96 z3 → (96 + 1 : Int) ≤ z2.toInt + ((n50 + 1 : Nat) : Int) → (96 + 1 : Int) ≤ z3.toInt + (n58 : Int) → Ho (k58 S' z0 z1 z2 z3) (fun q => Rl T kw_M22 S0 0 0 T q.2 ∧ True)) (hm58 : (96 + 1 : Int) ≤ x3.toInt + ((n58 + 1 : Nat) : Int)) (h_x0 : Tx T 100 x0) (h_x1 : In 0 7 x1) (h_x2 : In 0 95 x2) (h_x3 : In 0 95 x3) (h_x4 : In 0 95 x4) (h_x5 : In 0 7 x5) (hx_67_x4 : In 0 3 (sI S 67 x4.toNatClampNeg)) (hfsr0 : SR S0) : Ho (f_M_weakest_B139 k50 k58 S x0 x1 x2 x3 x4 x5 (0 : Int32) (1 : Int32)) (fun q => Rl T kw_M22 S0 0 0 T q.2 ∧ True) := by
  unfold f_M_weakest_B139
  refine r_ifT (by decide) ?_
  exact t_M_weakest_B151_6c0_7c1 (Rlweak g (by decide +kernel) (by decide) (by decide)) hk50 hm50 hk58 hm58 h_x0 (In_w h_x1 (by decide) (by decide)) (In_w h_x2 (by decide) (by decide)) (In_w h_x3 (by decide) (by decide)) (In_w h_x4 (by decide) (by decide)) (In_w h_x5 (by decide) (by decide)) (In_w hx_67_x4 (by decide) (by decide)) hfsr0
theorem t_M_weakest_B117_6c1 {T : Nat → Nat} {S0 S : AS} (g : Rl T kw_M22 S0 0 0 T S) {x0 : Option Nat} {x1 : Int32} {x2 : Int32} {x3 : Int32} {x4 : Int32} {x5 : Int32} {k50 : AS → Option Nat → Int32 → Int32 → Option (Int32 × AS)} {n50 : Nat} (hk50 : ∀ (S' : AS) (z0 : Option Nat) (z1 : Int32) (z2 : Int32), Rl T kw_M22 S0 0 0 T S' → Tx T 100 z0 → In 0 7 z1 → In 0 96 z2 → (96 + 1 : Int) ≤ z2.toInt + (n50 : Int) → Ho (k50 S' z0 z1 z2) (fun q => Rl T kw_M22 S0 0 0 T q.2 ∧ True)) (hm50 : (96 + 1 : Int) ≤ x2.toInt + ((n50 + 1 : Nat) : Int)) {k58 : AS → Option Nat → Int32 → Int32 → Int32 → Option (Int32 × AS)} {n58 : Nat} (hk58 : ∀ (S' : AS) (z0 : Option Nat) (z1 : Int32) (z2 : Int32) (z3 : Int32), Rl T kw_M22 S0 0 0 T S' → Tx T 100 z0 → In 0 7 z1 → In 0 95 z2 → In 0 96 z3 → (96 + 1 : Int) ≤ z2.toInt + ((n50 + 1 : Nat) : Int) → (96 + 1 : Int) ≤ z3.toInt + (n58 : Int) → Ho (k58 S' z0 z1 z2 z3) (fun q => Rl T kw_M22 S0 0 0 T q.2 ∧ True)) (hm58 : (96 + 1 : Int) ≤ x3.toInt + ((n58 + 1 : Nat) : Int)) (h_x0 : Tx T 100 x0) (h_x1 : In 0 7 x1) (h_x2 : In 0 95 x2) (h_x3 : In 0 95 x3) (h_x4 : In 0 95 x4) (h_x5 : In 0 7 x5) (hx_67_x4 : In 4 4 (sI S 67 x4.toNatClampNeg)) (hfsr0 : SR S0) : Ho (f_M_weakest_B117 k50 k58 S x0 x1 x2 x3 x4 x5 (1 : Int32)) (fun q => Rl T kw_M22 S0 0 0 T q.2 ∧ True) := by
  unfold f_M_weakest_B117
  refine r_P (P := fun v => True) (t_M_levelOf g.1 ) (fun v15 h1 => ?_)
  refine r_gR g.1 h_x0 rfl rfl (fun v16 h2 => ?_)
  refine r_aIs g.1 h2 rfl (p := 68) rfl rfl (In_w h_x4 (by decide) (by decide) : In 0 95 x4) (by decide) (fun v17 b3 e4 => ?_)
  have q5 : In 0 20 v17 := b3 _ _ rfl
  refine r_if (fun c6 => ?_) (fun c6 => ?_)
  · have q7 : In (-2147483648) 19 v15 := In_w (In_lt1 c6 (In_top v15) q5) (by decide) (by decide)
    exact t_M_weakest_B139_6c1_7c0 (Rlweak g (by decide +kernel) (by decide) (by decide)) hk50 hm50 hk58 hm58 h_x0 (In_w h_x1 (by decide) (by decide)) (In_w h_x2 (by decide) (by decide)) (In_w h_x3 (by decide) (by decide)) (In_w h_x4 (by decide) (by decide)) (In_w h_x5 (by decide) (by decide)) (In_w hx_67_x4 (by decide) (by decide)) hfsr0
  · have q8 : In 0 2147483647 v15 := In_w (In_le2 (Int32.not_lt.mp c6) q5 (In_top v15)) (by decide) (by decide)
    exact t_M_weakest_B139_6c1_7c1 (Rlweak g (by decide +kernel) (by decide) (by decide)) hk50 hm50 hk58 hm58 h_x0 (In_w h_x1 (by decide) (by decide)) (In_w h_x2 (by decide) (by decide)) (In_w h_x3 (by decide) (by decide)) (In_w h_x4 (by decide) (by decide)) (In_w h_x5 (by decide) (by decide)) (In_w hx_67_x4 (by decide) (by decide)) hfsr0
theorem t_M_weakest_B117_6c0 {T : Nat → Nat} {S0 S : AS} (g : Rl T kw_M22 S0 0 0 T S) {x0 : Option Nat} {x1 : Int32} {x2 : Int32} {x3 : Int32} {x4 : Int32} {x5 : Int32} {k50 : AS → Option Nat → Int32 → Int32 → Option (Int32 × AS)} {n50 : Nat} (hk50 : ∀ (S' : AS) (z0 : Option Nat) (z1 : Int32) (z2 : Int32), Rl T kw_M22 S0 0 0 T S' → Tx T 100 z0 → In 0 7 z1 → In 0 96 z2 → (96 + 1 : Int) ≤ z2.toInt + (n50 : Int) → Ho (k50 S' z0 z1 z2) (fun q => Rl T kw_M22 S0 0 0 T q.2 ∧ True)) (hm50 : (96 + 1 : Int) ≤ x2.toInt + ((n50 + 1 : Nat) : Int)) {k58 : AS → Option Nat → Int32 → Int32 → Int32 → Option (Int32 × AS)} {n58 : Nat} (hk58 : ∀ (S' : AS) (z0 : Option Nat) (z1 : Int32) (z2 : Int32) (z3 : Int32), Rl T kw_M22 S0 0 0 T S' → Tx T 100 z0 → In 0 7 z1 → In 0 95 z2 → In 0 96 z3 → (96 + 1 : Int) ≤ z2.toInt + ((n50 + 1 : Nat) : Int) → (96 + 1 : Int) ≤ z3.toInt + (n58 : Int) → Ho (k58 S' z0 z1 z2 z3) (fun q => Rl T kw_M22 S0 0 0 T q.2 ∧ True)) (hm58 : (96 + 1 : Int) ≤ x3.toInt + ((n58 + 1 : Nat) : Int)) (h_x0 : Tx T 100 x0) (h_x1 : In 0 7 x1) (h_x2 : In 0 95 x2) (h_x3 : In 0 95 x3) (h_x4 : In 0 95 x4) (h_x5 : In 0 7 x5) (hx_67_x4 : In 0 3 (sI S 67 x4.toNatClampNeg)) (hfsr0 : SR S0) : Ho (f_M_weakest_B117 k50 k58 S x0 x1 x2 x3 x4 x5 (0 : Int32)) (fun q => Rl T kw_M22 S0 0 0 T q.2 ∧ True) := by
  unfold f_M_weakest_B117
  refine r_P (P := fun v => True) (t_M_levelOf g.1 ) (fun v15 h1 => ?_)
  refine r_gR g.1 h_x0 rfl rfl (fun v16 h2 => ?_)
  refine r_aIs g.1 h2 rfl (p := 68) rfl rfl (In_w h_x4 (by decide) (by decide) : In 0 95 x4) (by decide) (fun v17 b3 e4 => ?_)
  have q5 : In 0 20 v17 := b3 _ _ rfl
  refine r_if (fun c6 => ?_) (fun c6 => ?_)
  · have q7 : In (-2147483648) 19 v15 := In_w (In_lt1 c6 (In_top v15) q5) (by decide) (by decide)
    exact t_M_weakest_B139_6c0_7c0 (Rlweak g (by decide +kernel) (by decide) (by decide)) hk50 hm50 hk58 hm58 h_x0 (In_w h_x1 (by decide) (by decide)) (In_w h_x2 (by decide) (by decide)) (In_w h_x3 (by decide) (by decide)) (In_w h_x4 (by decide) (by decide)) (In_w h_x5 (by decide) (by decide)) (In_w hx_67_x4 (by decide) (by decide)) hfsr0
  · have q8 : In 0 2147483647 v15 := In_w (In_le2 (Int32.not_lt.mp c6) q5 (In_top v15)) (by decide) (by decide)
    exact t_M_weakest_B139_6c0_7c1 (Rlweak g (by decide +kernel) (by decide) (by decide)) hk50 hm50 hk58 hm58 h_x0 (In_w h_x1 (by decide) (by decide)) (In_w h_x2 (by decide) (by decide)) (In_w h_x3 (by decide) (by decide)) (In_w h_x4 (by decide) (by decide)) (In_w h_x5 (by decide) (by decide)) (In_w hx_67_x4 (by decide) (by decide)) hfsr0
theorem t_M_weakest_C58 {T : Nat → Nat} {S0 S : AS} (g : Rl T kw_M22 S0 0 0 T S) {x0 : Option Nat} {x1 : Int32} {x2 : Int32} {x3 : Int32} {k50 : AS → Option Nat → Int32 → Int32 → Option (Int32 × AS)} {n50 : Nat} (hk50 : ∀ (S' : AS) (z0 : Option Nat) (z1 : Int32) (z2 : Int32), Rl T kw_M22 S0 0 0 T S' → Tx T 100 z0 → In 0 7 z1 → In 0 96 z2 → (96 + 1 : Int) ≤ z2.toInt + (n50 : Int) → Ho (k50 S' z0 z1 z2) (fun q => Rl T kw_M22 S0 0 0 T q.2 ∧ True)) (hm50 : (96 + 1 : Int) ≤ x2.toInt + ((n50 + 1 : Nat) : Int)) {k58 : AS → Option Nat → Int32 → Int32 → Int32 → Option (Int32 × AS)} {n58 : Nat} (hk58 : ∀ (S' : AS) (z0 : Option Nat) (z1 : Int32) (z2 : Int32) (z3 : Int32), Rl T kw_M22 S0 0 0 T S' → Tx T 100 z0 → In 0 7 z1 → In 0 95 z2 → In 0 96 z3 → (96 + 1 : Int) ≤ z2.toInt + ((n50 + 1 : Nat) : Int) → (96 + 1 : Int) ≤ z3.toInt + (n58 : Int) → Ho (k58 S' z0 z1 z2 z3) (fun q => Rl T kw_M22 S0 0 0 T q.2 ∧ True)) (hm58 : (96 + 1 : Int) ≤ x3.toInt + ((n58 + 1 : Nat) : Int)) (h_x0 : Tx T 100 x0) (h_x1 : In 0 7 x1) (h_x2 : In 0 95 x2) (h_x3 : In 0 96 x3) (hfsr0 : SR S0) : Ho (f_M_weakest_C58 k50 k58 S x0 x1 x2 x3) (fun q => Rl T kw_M22 S0 0 0 T q.2 ∧ True) := by
  unfold f_M_weakest_C58
  refine r_if (fun c1 => ?_) (fun c1 => ?_)
  · have q2 : In 96 96 x3 := In_w (In_le2 c1 (by decide : In 96 96 (96 : Int32)) h_x3) (by decide) (by decide)
    refine r_val ?_
    generalize ei18 : (x2 + (1 : Int32)) = i18
    have qi18 : In 1 96 i18 := by rw [← ei18]; exact (In_w (In_add h_x2 (by decide : In 1 1 (1 : Int32)) (by decide) (by decide)) (by decide) (by decide) : In 1 96 (x2 + (1 : Int32)))
    exact hk50 S x0 x1 i18 (Rlweak g (by decide +kernel) (by decide) (by decide)) h_x0 (In_w h_x1 (by decide) (by decide)) (In_w qi18 (by decide) (by decide))  (by rw [← ei18, toInt_add1 h_x2 (by decide) (by decide)]; omega)
  · have q3 : In 0 95 x3 := In_w (In_lt1 (Int32.not_le.mp c1) h_x3 (by decide : In 96 96 (96 : Int32))) (by decide) (by decide)
    refine r_val ?_
    generalize ei19 : (((12 : Int32) * x1) + (x3 / (8 : Int32))) = i19
    have qi19 : In 0 95 i19 := by rw [← ei19]; exact (In_w (In_add (In_w (In_mulc (k := 12) h_x1 (by decide) (by decide) (by decide) (by decide)) (by decide) (by decide) : In 0 84 ((12 : Int32) * x1)) (In_w (In_div8 (In_w q3 (by decide) (by decide))) (by decide) (by decide) : In 0 11 (x3 / (8 : Int32))) (by decide) (by decide)) (by decide) (by decide) : In 0 95 (((12 : Int32) * x1) + (x3 / (8 : Int32))))
    refine r_val ?_
    generalize ei20 : (x3 - x3 / (8 : Int32) * (8 : Int32)) = i20
    have qi20 : In 0 7 i20 := by rw [← ei20]; exact (In_w (In_mod8 (In_w q3 (by decide) (by decide))) (by decide) (by decide) : In 0 7 (x3 - ((x3 / (8 : Int32)) * (8 : Int32))))
    refine r_gR g.1 h_x0 rfl rfl (fun v21 h4 => ?_)
    refine r_aIs g.1 h4 rfl (p := 72) rfl rfl (In_w q3 (by decide) (by decide) : In 0 95 x3) (by decide) (fun v22 b5 e6 => ?_)
    have q7 : In 0 1 v22 := b5 _ _ rfl
    refine r_if (fun c8 => ?_) (fun c8 => ?_)
    · have q9 : In 0 0 v22 := In_w (In_eq c8 (by decide : In 0 0 (0 : Int32))) (by decide) (by decide)
      exact t_M_weakest_B212 (Rlweak g (by decide +kernel) (by decide) (by decide)) hk50 hm50 hk58 hm58 h_x0 (In_w h_x1 (by decide) (by decide)) (In_w h_x2 (by decide) (by decide)) (In_w q3 (by decide) (by decide)) hfsr0
    · have q10 : In 1 1 v22 := In_w (In_neL c8 q7 (by decide)) (by decide) (by decide)
      refine r_gR g.1 h_x0 rfl rfl (fun v23 h11 => ?_)
      refine r_aIs g.1 h11 rfl (p := 67) rfl rfl (In_w qi19 (by decide) (by decide) : In 0 95 i19) (by decide) (fun v24 b12 e13 => ?_)
      have q14 : In 0 6 v24 := b12 _ _ rfl
      refine r_if (fun c15 => ?_) (fun c15 => ?_)
      · have q16 : In 5 6 v24 := In_w (In_le2 c15 (by decide : In 5 5 (5 : Int32)) q14) (by decide) (by decide)
        exact t_M_weakest_B212 (Rlweak g (by decide +kernel) (by decide) (by decide)) hk50 hm50 hk58 hm58 h_x0 (In_w h_x1 (by decide) (by decide)) (In_w h_x2 (by decide) (by decide)) (In_w q3 (by decide) (by decide)) hfsr0
      · have q17 : In 0 4 v24 := In_w (In_lt1 (Int32.not_le.mp c15) q14 (by decide : In 5 5 (5 : Int32))) (by decide) (by decide)
        refine r_gR g.1 h_x0 rfl rfl (fun v25 h18 => ?_)
        refine r_aIs g.1 h18 rfl (p := 67) rfl rfl (In_w qi19 (by decide) (by decide) : In 0 95 i19) (by decide) (fun v26 b19 e20 => ?_)
        have q21 : In 0 6 v26 := b19 _ _ rfl
        have q22 : In 0 4 v26 := In_w (In_read e20 (In_cell e13 q17)) (by decide) (by decide)
        refine r_if (fun c23 => ?_) (fun c23 => ?_)
        · have q24 : In 4 4 v26 := In_w (In_eq c23 (by decide : In 4 4 (4 : Int32))) (by decide) (by decide)
          exact t_M_weakest_B117_6c1 (Rlweak g (by decide +kernel) (by decide) (by decide)) hk50 hm50 hk58 hm58 h_x0 (In_w h_x1 (by decide) (by decide)) (In_w h_x2 (by decide) (by decide)) (In_w q3 (by decide) (by decide)) (In_w qi19 (by decide) (by decide)) (In_w qi20 (by decide) (by decide)) (In_w (In_cell e20 q24) (by decide) (by decide)) hfsr0
        · have q25 : In 0 3 v26 := In_w (In_neR c23 q22 (by decide)) (by decide) (by decide)
          exact t_M_weakest_B117_6c0 (Rlweak g (by decide +kernel) (by decide) (by decide)) hk50 hm50 hk58 hm58 h_x0 (In_w h_x1 (by decide) (by decide)) (In_w h_x2 (by decide) (by decide)) (In_w q3 (by decide) (by decide)) (In_w qi19 (by decide) (by decide)) (In_w qi20 (by decide) (by decide)) (In_w (In_cell e20 q25) (by decide) (by decide)) hfsr0
theorem t_M_weakest_L58 {T : Nat → Nat} {S0 : AS} {k50 : AS → Option Nat → Int32 → Int32 → Option (Int32 × AS)} {n50 : Nat} (hk50 : ∀ (S' : AS) (z0 : Option Nat) (z1 : Int32) (z2 : Int32), Rl T kw_M22 S0 0 0 T S' → Tx T 100 z0 → In 0 7 z1 → In 0 96 z2 → (96 + 1 : Int) ≤ z2.toInt + (n50 : Int) → Ho (k50 S' z0 z1 z2) (fun q => Rl T kw_M22 S0 0 0 T q.2 ∧ True)) (hfsr0 : SR S0) : ∀ (n : Nat) (S : AS) (x0 : Option Nat) (x1 : Int32) (x2 : Int32) (x3 : Int32), Rl T kw_M22 S0 0 0 T S → Tx T 100 x0 → In 0 7 x1 → In 0 95 x2 → In 0 96 x3 → (96 + 1 : Int) ≤ x2.toInt + ((n50 + 1 : Nat) : Int) → (96 + 1 : Int) ≤ x3.toInt + (n : Int) → Ho (f_M_weakest_L58 k50 n S x0 x1 x2 x3) (fun q => Rl T kw_M22 S0 0 0 T q.2 ∧ True) := by
  intro n
  induction n with
  | zero =>
    intro S x0 x1 x2 x3 g h_x0 h_x1 h_x2 h_x3 hm50 hm
    exact absurd hm (by have := h_x3.2; omega)
  | succ n ih =>
    intro S x0 x1 x2 x3 g h_x0 h_x1 h_x2 h_x3 hm50 hm
    exact t_M_weakest_C58 g hk50 hm50 (fun S' z0 z1 z2 z3 g' a_h_x0 a_h_x1 a_h_x2 a_h_x3 a_hm50 am => ih S' z0 z1 z2 z3 g' a_h_x0 a_h_x1 a_h_x2 a_h_x3 a_hm50 am) hm h_x0 h_x1 h_x2 h_x3 hfsr0
theorem t_M_weakest_B300 {T : Nat → Nat} {S0 S : AS} (g : Rl T kw_M22 S0 0 0 T S) {x0 : Option Nat} {x1 : Int32} {x3 : Int32} {y0 : Int32} {k228 : AS → Option Nat → Int32 → Int32 → Int32 → Option (Int32 × AS)} {n228 : Nat} (hk228 : ∀ (S' : AS) (z0 : Option Nat) (z1 : Int32) (z2 : Int32) (z3 : Int32), Rl T kw_M22 S0 0 0 T S' → Tx T 100 z0 → In 0 7 z1 → In 0 96 z3 → (96 + 1 : Int) ≤ z3.toInt + (n228 : Int) → Ho (k228 S' z0 z1 z2 z3) (fun q => Rl T kw_M22 S0 0 0 T q.2 ∧ True)) (hm228 : (96 + 1 : Int) ≤ x3.toInt + ((n228 + 1 : Nat) : Int)) (h_x0 : Tx T 100 x0) (h_x1 : In 0 7 x1) (h_x3 : In 0 95 x3) (hfsr0 : SR S0) : Ho (f_M_weakest_B300 k228 S x0 x1 x3 y0) (fun q => Rl T kw_M22 S0 0 0 T q.2 ∧ True) := by
  unfold f_M_weakest_B300
  refine r_val ?_
  generalize ei27 : (x3 + (1 : Int32)) = i27
  have qi27 : In 1 96 i27 := by rw [← ei27]; exact (In_w (In_add h_x3 (by decide : In 1 1 (1 : Int32)) (by decide) (by decide)) (by decide) (by decide) : In 1 96 (x3 + (1 : Int32)))
  exact hk228 S x0 x1 y0 i27 (Rlweak g (by decide +kernel) (by decide) (by decide)) h_x0 (In_w h_x1 (by decide) (by decide)) (In_w qi27 (by decide) (by decide))  (by rw [← ei27, toInt_add1 h_x3 (by decide) (by decide)]; omega)
theorem t_M_weakest_B289 {T : Nat → Nat} {S0 S : AS} (g : Rl T kw_M22 S0 0 0 T S) {x0 : Option Nat} {x1 : Int32} {x3 : Int32} {k228 : AS → Option Nat → Int32 → Int32 → Int32 → Option (Int32 × AS)} {n228 : Nat} (hk228 : ∀ (S' : AS) (z0 : Option Nat) (z1 : Int32) (z2 : Int32) (z3 : Int32), Rl T kw_M22 S0 0 0 T S' → Tx T 100 z0 → In 0 7 z1 → In 0 96 z3 → (96 + 1 : Int) ≤ z3.toInt + (n228 : Int) → Ho (k228 S' z0 z1 z2 z3) (fun q => Rl T kw_M22 S0 0 0 T q.2 ∧ True)) (hm228 : (96 + 1 : Int) ≤ x3.toInt + ((n228 + 1 : Nat) : Int)) (h_x0 : Tx T 100 x0) (h_x1 : In 0 7 x1) (h_x3 : In 0 95 x3) (hx_67_12x1x38 : In 5 5 (sI S 67 (((12 : Int32) * x1) + (x3 / (8 : Int32))).toNatClampNeg)) (hfsr0 : SR S0) : Ho (f_M_weakest_B289 k228 S x0 x1 x3) (fun q => Rl T kw_M22 S0 0 0 T q.2 ∧ True) := by
  unfold f_M_weakest_B289
  refine r_P (P := fun v => True) (t_M_levelOf g.1 ) (fun v29 h1 => ?_)
  exact t_M_weakest_B300 (Rlweak g (by decide +kernel) (by decide) (by decide)) hk228 hm228 h_x0 (In_w h_x1 (by decide) (by decide)) (In_w h_x3 (by decide) (by decide)) hfsr0
theorem t_M_weakest_B299 {T : Nat → Nat} {S0 S : AS} (g : Rl T kw_M22 S0 0 0 T S) {x0 : Option Nat} {x1 : Int32} {x2 : Int32} {x3 : Int32} {k228 : AS → Option Nat → Int32 → Int32 → Int32 → Option (Int32 × AS)} {n228 : Nat} (hk228 : ∀ (S' : AS) (z0 : Option Nat) (z1 : Int32) (z2 : Int32) (z3 : Int32), Rl T kw_M22 S0 0 0 T S' → Tx T 100 z0 → In 0 7 z1 → In 0 96 z3 → (96 + 1 : Int) ≤ z3.toInt + (n228 : Int) → Ho (k228 S' z0 z1 z2 z3) (fun q => Rl T kw_M22 S0 0 0 T q.2 ∧ True)) (hm228 : (96 + 1 : Int) ≤ x3.toInt + ((n228 + 1 : Nat) : Int)) (h_x0 : Tx T 100 x0) (h_x1 : In 0 7 x1) (h_x3 : In 0 95 x3) (hfsr0 : SR S0) : Ho (f_M_weakest_B299 k228 S x0 x1 x2 x3) (fun q => Rl T kw_M22 S0 0 0 T q.2 ∧ True) := by
  unfold f_M_weakest_B299
  exact t_M_weakest_B300 (Rlweak g (by decide +kernel) (by decide) (by decide)) hk228 hm228 h_x0 (In_w h_x1 (by decide) (by decide)) (In_w h_x3 (by decide) (by decide)) hfsr0
theorem t_M_weakest_B266_4c1 {T : Nat → Nat} {S0 S : AS} (g : Rl T kw_M22 S0 0 0 T S) {x0 : Option Nat} {x1 : Int32} {x2 : Int32} {x3 : Int32} {k228 : AS → Option Nat → Int32 → Int32 → Int32 → Option (Int32 × AS)} {n228 : Nat} (hk228 : ∀ (S' : AS) (z0 : Option Nat) (z1 : Int32) (z2 : Int32) (z3 : Int32), Rl T kw_M22 S0 0 0 T S' → Tx T 100 z0 → In 0 7 z1 → In 0 96 z3 → (96 + 1 : Int) ≤ z3.toInt + (n228 : Int) → Ho (k228 S' z0 z1 z2 z3) (fun q => Rl T kw_M22 S0 0 0 T q.2 ∧ True)) (hm228 : (96 + 1 : Int) ≤ x3.toInt + ((n228 + 1 : Nat) : Int)) (h_x0 : Tx T 100 x0) (h_x1 : In 0 7 x1) (h_x3 : In 0 95 x3) (hx_67_12x1x38 : In 5 5 (sI S 67 (((12 : Int32) * x1) + (x3 / (8 : Int32))).toNatClampNeg)) (hfsr0 : SR S0) : Ho (f_M_weakest_B266 k228 S x0 x1 x2 x3 (1 : Int32)) (fun q => Rl T kw_M22 S0 0 0 T q.2 ∧ True) := by
  unfold f_M_weakest_B266
  refine r_ifF (by decide) ?_
  refine r_if (fun c1 => ?_) (fun c1 => ?_)
  · have q2 : In (-1) (-1) x2 := In_w (In_eq c1 (by decide : In (-1) (-1) (-1 : Int32))) (by decide) (by decide)
    exact t_M_weakest_B289 (Rlweak g (by decide +kernel) (by decide) (by decide)) hk228 hm228 h_x0 (In_w h_x1 (by decide) (by decide)) (In_w h_x3 (by decide) (by decide)) (In_w hx_67_12x1x38 (by decide) (by decide)) hfsr0
  · refine r_P (P := fun v => True) (t_M_levelOf g.1 ) (fun v31 h3 => ?_)
    refine r_if (fun c4 => ?_) (fun c4 => ?_)
    · exact t_M_weakest_B299 (Rlweak g (by decide +kernel) (by decide) (by decide)) hk228 hm228 h_x0 (In_w h_x1 (by decide) (by decide)) (In_w h_x3 (by decide) (by decide)) hfsr0
    · have q5 : In (-2147483648) 2147483646 v31 := In_w (In_lt1 (Int32.not_le.mp c4) (In_top v31) (In_top x2)) (by decide) (by decide)
      have q6 : In (-2147483647) 2147483647 x2 := In_w (In_lt2 (Int32.not_le.mp c4) (In_top v31) (In_top x2)) (by decide) (by decide)
      exact t_M_weakest_B289 (Rlweak g (by decide +kernel) (by decide) (by decide)) hk228 hm228 h_x0 (In_w h_x1 (by decide) (by decide)) (In_w h_x3 (by decide) (by decide)) (In_w hx_67_12x1x38 (by decide) (by decide)) hfsr0
theorem t_M_weakest_B266_4c0 {T : Nat → Nat} {S0 S : AS} (g : Rl T kw_M22 S0 0 0 T S) {x0 : Option Nat} {x1 : Int32} {x2 : Int32} {x3 : Int32} {k228 : AS → Option Nat → Int32 → Int32 → Int32 → Option (Int32 × AS)} {n228 : Nat} (hk228 : ∀ (S' : AS) (z0 : Option Nat) (z1 : Int32) (z2 : Int32) (z3 : Int32), Rl T kw_M22 S0 0 0 T S' → Tx T 100 z0 → In 0 7 z1 → In 0 96 z3 → (96 + 1 : Int) ≤ z3.toInt + (n228 : Int) → Ho (k228 S' z0 z1 z2 z3) (fun q => Rl T kw_M22 S0 0 0 T q.2 ∧ True)) (hm228 : (96 + 1 : Int) ≤ x3.toInt + ((n228 + 1 : Nat) : Int)) (h_x0 : Tx T 100 x0) (h_x1 : In 0 7 x1) (h_x3 : In 0 95 x3) (hfsr0 : SR S0) : Ho (f_M_weakest_B266 k228 S x0 x1 x2 x3 (0 : Int32)) (fun q => Rl T kw_M22 S0 0 0 T q.2 ∧ True) := by
  unfold f_M_weakest_B266
  refine r_ifT (by decide) ?_
  exact t_M_weakest_B299 (Rlweak g (by decide +kernel) (by decide) (by decide)) hk228 hm228 h_x0 (In_w h_x1 (by decide) (by decide)) (In_w h_x3 (by decide) (by decide)) hfsr0
theorem t_M_weakest_B265 {T : Nat → Nat} {S0 S : AS} (g : Rl T kw_M22 S0 0 0 T S) {x0 : Option Nat} {x1 : Int32} {x2 : Int32} {x3 : Int32} {k228 : AS → Option Nat → Int32 → Int32 → Int32 → Option (Int32 × AS)} {n228 : Nat} (hk228 : ∀ (S' : AS) (z0 : Option Nat) (z1 : Int32) (z2 : Int32) (z3 : Int32), Rl T kw_M22 S0 0 0 T S' → Tx T 100 z0 → In 0 7 z1 → In 0 96 z3 → (96 + 1 : Int) ≤ z3.toInt + (n228 : Int) → Ho (k228 S' z0 z1 z2 z3) (fun q => Rl T kw_M22 S0 0 0 T q.2 ∧ True)) (hm228 : (96 + 1 : Int) ≤ x3.toInt + ((n228 + 1 : Nat) : Int)) (h_x0 : Tx T 100 x0) (h_x1 : In 0 7 x1) (h_x3 : In 0 95 x3) (hfsr0 : SR S0) : Ho (f_M_weakest_B265 k228 S x0 x1 x2 x3) (fun q => Rl T kw_M22 S0 0 0 T q.2 ∧ True) := by
  unfold f_M_weakest_B265
  exact t_M_weakest_B266_4c0 (Rlweak g (by decide +kernel) (by decide) (by decide)) hk228 hm228 h_x0 (In_w h_x1 (by decide) (by decide)) (In_w h_x3 (by decide) (by decide)) hfsr0
theorem t_M_weakest_C228 {T : Nat → Nat} {S0 S : AS} (g : Rl T kw_M22 S0 0 0 T S) {x0 : Option Nat} {x1 : Int32} {x2 : Int32} {x3 : Int32} {k228 : AS → Option Nat → Int32 → Int32 → Int32 → Option (Int32 × AS)} {n228 : Nat} (hk228 : ∀ (S' : AS) (z0 : Option Nat) (z1 : Int32) (z2 : Int32) (z3 : Int32), Rl T kw_M22 S0 0 0 T S' → Tx T 100 z0 → In 0 7 z1 → In 0 96 z3 → (96 + 1 : Int) ≤ z3.toInt + (n228 : Int) → Ho (k228 S' z0 z1 z2 z3) (fun q => Rl T kw_M22 S0 0 0 T q.2 ∧ True)) (hm228 : (96 + 1 : Int) ≤ x3.toInt + ((n228 + 1 : Nat) : Int)) (h_x0 : Tx T 100 x0) (h_x1 : In 0 7 x1) (h_x3 : In 0 96 x3) (hfsr0 : SR S0) : Ho (f_M_weakest_C228 k228 S x0 x1 x2 x3) (fun q => Rl T kw_M22 S0 0 0 T q.2 ∧ True) := by
  unfold f_M_weakest_C228
  refine r_if (fun c1 => ?_) (fun c1 => ?_)
  · have q2 : In 96 96 x3 := In_w (In_le2 c1 (by decide : In 96 96 (96 : Int32)) h_x3) (by decide) (by decide)
    exact r_some ⟨(Rlweak g (by decide +kernel) (by decide) (by decide)), trivial⟩
  · have q3 : In 0 95 x3 := In_w (In_lt1 (Int32.not_le.mp c1) h_x3 (by decide : In 96 96 (96 : Int32))) (by decide) (by decide)
    refine r_gR g.1 h_x0 rfl rfl (fun v32 h4 => ?_)
    refine r_aIs g.1 h4 rfl (p := 72) rfl rfl (In_w q3 (by decide) (by decide) : In 0 95 x3) (by decide) (fun v33 b5 e6 => ?_)
    have q7 : In 0 1 v33 := b5 _ _ rfl
    refine r_if (fun c8 => ?_) (fun c8 => ?_)
    · have q9 : In 0 0 v33 := In_w (In_eq c8 (by decide : In 0 0 (0 : Int32))) (by decide) (by decide)
      exact t_M_weakest_B265 (Rlweak g (by decide +kernel) (by decide) (by decide)) hk228 hm228 h_x0 (In_w h_x1 (by decide) (by decide)) (In_w q3 (by decide) (by decide)) hfsr0
    · have q10 : In 1 1 v33 := In_w (In_neL c8 q7 (by decide)) (by decide) (by decide)
      refine r_gR g.1 h_x0 rfl rfl (fun v34 h11 => ?_)
      refine r_aIs g.1 h11 rfl (p := 67) rfl rfl (In_w (In_w (In_add (In_w (In_mulc (k := 12) h_x1 (by decide) (by decide) (by decide) (by decide)) (by decide) (by decide) : In 0 84 ((12 : Int32) * x1)) (In_w (In_div8 (In_w q3 (by decide) (by decide))) (by decide) (by decide) : In 0 11 (x3 / (8 : Int32))) (by decide) (by decide)) (by decide) (by decide) : In 0 95 (((12 : Int32) * x1) + (x3 / (8 : Int32)))) (by decide) (by decide) : In 0 95 (((12 : Int32) * x1) + (x3 / (8 : Int32)))) (by decide) (fun v35 b12 e13 => ?_)
      have q14 : In 0 6 v35 := b12 _ _ rfl
      refine r_if (fun c15 => ?_) (fun c15 => ?_)
      · have q16 : In 5 5 v35 := In_w (In_eq c15 (by decide : In 5 5 (5 : Int32))) (by decide) (by decide)
        exact t_M_weakest_B266_4c1 (Rlweak g (by decide +kernel) (by decide) (by decide)) hk228 hm228 h_x0 (In_w h_x1 (by decide) (by decide)) (In_w q3 (by decide) (by decide)) (In_w (In_cell e13 q16) (by decide) (by decide)) hfsr0
      · exact t_M_weakest_B265 (Rlweak g (by decide +kernel) (by decide) (by decide)) hk228 hm228 h_x0 (In_w h_x1 (by decide) (by decide)) (In_w q3 (by decide) (by decide)) hfsr0
theorem t_M_weakest_L228 {T : Nat → Nat} {S0 : AS} (hfsr0 : SR S0) : ∀ (n : Nat) (S : AS) (x0 : Option Nat) (x1 : Int32) (x2 : Int32) (x3 : Int32), Rl T kw_M22 S0 0 0 T S → Tx T 100 x0 → In 0 7 x1 → In 0 96 x3 → (96 + 1 : Int) ≤ x3.toInt + (n : Int) → Ho (f_M_weakest_L228  n S x0 x1 x2 x3) (fun q => Rl T kw_M22 S0 0 0 T q.2 ∧ True) := by
  intro n
  induction n with
  | zero =>
    intro S x0 x1 x2 x3 g h_x0 h_x1 h_x3 hm
    exact absurd hm (by have := h_x3.2; omega)
  | succ n ih =>
    intro S x0 x1 x2 x3 g h_x0 h_x1 h_x3 hm
    exact t_M_weakest_C228 g  (fun S' z0 z1 z2 z3 g' a_h_x0 a_h_x1 a_h_x3 am => ih S' z0 z1 z2 z3 g' a_h_x0 a_h_x1 a_h_x3 am) hm h_x0 h_x1 h_x3 hfsr0
theorem t_M_weakest_C50 {T : Nat → Nat} {S0 S : AS} (g : Rl T kw_M22 S0 0 0 T S) {x0 : Option Nat} {x1 : Int32} {x2 : Int32} {k50 : AS → Option Nat → Int32 → Int32 → Option (Int32 × AS)} {n50 : Nat} (hk50 : ∀ (S' : AS) (z0 : Option Nat) (z1 : Int32) (z2 : Int32), Rl T kw_M22 S0 0 0 T S' → Tx T 100 z0 → In 0 7 z1 → In 0 96 z2 → (96 + 1 : Int) ≤ z2.toInt + (n50 : Int) → Ho (k50 S' z0 z1 z2) (fun q => Rl T kw_M22 S0 0 0 T q.2 ∧ True)) (hm50 : (96 + 1 : Int) ≤ x2.toInt + ((n50 + 1 : Nat) : Int)) (h_x0 : Tx T 100 x0) (h_x1 : In 0 7 x1) (h_x2 : In 0 96 x2) (hfsr0 : SR S0) : Ho (f_M_weakest_C50 k50 S x0 x1 x2) (fun q => Rl T kw_M22 S0 0 0 T q.2 ∧ True) := by
  unfold f_M_weakest_C50
  refine r_if (fun c1 => ?_) (fun c1 => ?_)
  · have q2 : In 96 96 x2 := In_w (In_le2 c1 (by decide : In 96 96 (96 : Int32)) h_x2) (by decide) (by decide)
    exact t_M_weakest_L228  hfsr0 kr_FU S x0 x1 (-1 : Int32) (0 : Int32) (Rlweak g (by decide +kernel) (by decide) (by decide)) h_x0 (In_w h_x1 (by decide) (by decide)) (In_w (by decide : In 0 0 (0 : Int32)) (by decide) (by decide))  (by decide)
  · have q3 : In 0 95 x2 := In_w (In_lt1 (Int32.not_le.mp c1) h_x2 (by decide : In 96 96 (96 : Int32))) (by decide) (by decide)
    exact t_M_weakest_L58 hk50 hfsr0 kr_FU S x0 x1 x2 (0 : Int32) (Rlweak g (by decide +kernel) (by decide) (by decide)) h_x0 (In_w h_x1 (by decide) (by decide)) (In_w q3 (by decide) (by decide)) (In_w (by decide : In 0 0 (0 : Int32)) (by decide) (by decide)) hm50 (by decide)
theorem t_M_weakest_L50 {T : Nat → Nat} {S0 : AS} (hfsr0 : SR S0) : ∀ (n : Nat) (S : AS) (x0 : Option Nat) (x1 : Int32) (x2 : Int32), Rl T kw_M22 S0 0 0 T S → Tx T 100 x0 → In 0 7 x1 → In 0 96 x2 → (96 + 1 : Int) ≤ x2.toInt + (n : Int) → Ho (f_M_weakest_L50  n S x0 x1 x2) (fun q => Rl T kw_M22 S0 0 0 T q.2 ∧ True) := by
  intro n
  induction n with
  | zero =>
    intro S x0 x1 x2 g h_x0 h_x1 h_x2 hm
    exact absurd hm (by have := h_x2.2; omega)
  | succ n ih =>
    intro S x0 x1 x2 g h_x0 h_x1 h_x2 hm
    exact t_M_weakest_C50 g  (fun S' z0 z1 z2 g' a_h_x0 a_h_x1 a_h_x2 am => ih S' z0 z1 z2 g' a_h_x0 a_h_x1 a_h_x2 am) hm h_x0 h_x1 h_x2 hfsr0
theorem t_M_weakest_C22 {T : Nat → Nat} {S0 S : AS} (g : Rl T kw_M22 S0 0 0 T S) {x0 : Option Nat} {x1 : Int32} {x2 : Int32} {k22 : AS → Option Nat → Int32 → Int32 → Option (Int32 × AS)} {n22 : Nat} (hk22 : ∀ (S' : AS) (z0 : Option Nat) (z1 : Int32) (z2 : Int32), Rl T kw_M22 S0 0 0 T S' → Tx T 100 z0 → In 0 7 z1 → In 0 96 z2 → (96 + 1 : Int) ≤ z2.toInt + (n22 : Int) → Ho (k22 S' z0 z1 z2) (fun q => Rl T kw_M22 S0 0 0 T q.2 ∧ True)) (hm22 : (96 + 1 : Int) ≤ x2.toInt + ((n22 + 1 : Nat) : Int)) (h_x0 : Tx T 100 x0) (h_x1 : In 0 7 x1) (h_x2 : In 0 96 x2) (hfsr0 : SR S0) : Ho (f_M_weakest_C22 k22 S x0 x1 x2) (fun q => Rl T kw_M22 S0 0 0 T q.2 ∧ True) := by
  unfold f_M_weakest_C22
  refine r_if (fun c1 => ?_) (fun c1 => ?_)
  · have q2 : In 96 96 x2 := In_w (In_le2 c1 (by decide : In 96 96 (96 : Int32)) h_x2) (by decide) (by decide)
    refine r_gR g.1 h_x0 rfl rfl (fun v36 h3 => ?_)
    refine r_bZs (w' := kw_M22) g h3 rfl (p := 72) rfl rfl (In_w (by decide : In 0 0 (0 : Int32)) (by decide) (by decide) : In 0 0 (0 : Int32)) (by decide) (In_w (by decide : In 1 1 (1 : Int32)) (by decide) (by decide)) (fun _ _ _ q => by cases q; exact (In_w (by decide : In 1 1 (1 : Int32)) (by decide) (by decide))) (fun _ => rfl) (by decide) (by decide +kernel) (fun _ => by unfold phc; omega) (fun s4 g5 e6 => ?_)
    have f7 : In 1 1 (sI s4 72 (0 : Int32).toNatClampNeg) := In_eqw e6 (In_w (by decide : In 1 1 (1 : Int32)) (by decide) (by decide))
    exact t_M_weakest_L50  hfsr0 kr_FU s4 x0 x1 (0 : Int32) (Rlweak g5 (by decide +kernel) (by decide) (by decide)) h_x0 (In_w h_x1 (by decide) (by decide)) (In_w (by decide : In 0 0 (0 : Int32)) (by decide) (by decide))  (by decide)
  · have q8 : In 0 95 x2 := In_w (In_lt1 (Int32.not_le.mp c1) h_x2 (by decide : In 96 96 (96 : Int32))) (by decide) (by decide)
    refine r_gR g.1 h_x0 rfl rfl (fun v38 h9 => ?_)
    refine r_bZs (w' := kw_M22) g h9 rfl (p := 72) rfl rfl (In_w q8 (by decide) (by decide) : In 0 95 x2) (by decide) (In_w (by decide : In 0 0 (0 : Int32)) (by decide) (by decide)) (fun _ _ _ q => by cases q; exact (In_w (by decide : In 0 0 (0 : Int32)) (by decide) (by decide))) (fun _ => rfl) (by decide) (by decide +kernel) (fun _ => by unfold phc; omega) (fun s10 g11 e12 => ?_)
    have f13 : In 0 0 (sI s10 72 x2.toNatClampNeg) := In_eqw e12 (In_w (by decide : In 0 0 (0 : Int32)) (by decide) (by decide))
    refine r_val ?_
    generalize ei40 : (x2 + (1 : Int32)) = i40
    have qi40 : In 1 96 i40 := by rw [← ei40]; exact (In_w (In_add q8 (by decide : In 1 1 (1 : Int32)) (by decide) (by decide)) (by decide) (by decide) : In 1 96 (x2 + (1 : Int32)))
    exact hk22 s10 x0 x1 i40 (Rlweak g11 (by decide +kernel) (by decide) (by decide)) h_x0 (In_w h_x1 (by decide) (by decide)) (In_w qi40 (by decide) (by decide))  (by rw [← ei40, toInt_add1 q8 (by decide) (by decide)]; omega)
theorem t_M_weakest_L22 {T : Nat → Nat} {S0 : AS} (hfsr0 : SR S0) : ∀ (n : Nat) (S : AS) (x0 : Option Nat) (x1 : Int32) (x2 : Int32), Rl T kw_M22 S0 0 0 T S → Tx T 100 x0 → In 0 7 x1 → In 0 96 x2 → (96 + 1 : Int) ≤ x2.toInt + (n : Int) → Ho (f_M_weakest_L22  n S x0 x1 x2) (fun q => Rl T kw_M22 S0 0 0 T q.2 ∧ True) := by
  intro n
  induction n with
  | zero =>
    intro S x0 x1 x2 g h_x0 h_x1 h_x2 hm
    exact absurd hm (by have := h_x2.2; omega)
  | succ n ih =>
    intro S x0 x1 x2 g h_x0 h_x1 h_x2 hm
    exact t_M_weakest_C22 g  (fun S' z0 z1 z2 g' a_h_x0 a_h_x1 a_h_x2 am => ih S' z0 z1 z2 g' a_h_x0 a_h_x1 a_h_x2 am) hm h_x0 h_x1 h_x2 hfsr0
theorem t_M_weakest {T : Nat → Nat} {S : AS} (hT : TI T S) {a0 : Option Nat} {a1 : Int32} (h_a0 : Tx T 100 a0) (hfsr0 : SR S) : Ho (f_M_weakest  S a0 a1) (fun q => Rl T kw_M22 S 0 0 T q.2 ∧ True) := by
  have g0 := Rlrf hT
  unfold f_M_weakest
  refine r_gIs g0.1 h_a0 rfl (p := 57) rfl (fun v41 b1 e2 => ?_)
  have q3 : In 0 8 v41 := b1 _ _ rfl
  refine r_Mi (fun p4 p4b => ?_) ?_
  · have q5 : In 0 2147483647 a1 := In_w (In_le2 p4 (by decide : In 0 0 (0 : Int32)) (In_top a1)) (by decide) (by decide)
    have q6 : In 0 7 a1 := In_w (In_le1 p4b q5 (In_w (In_sub q3 (by decide : In 1 1 (1 : Int32)) (by decide) (by decide)) (by decide) (by decide) : In (-1) 7 (v41 - (1 : Int32)))) (by decide) (by decide)
    refine r_rv g0.1 h_a0 rfl ?_
    refine r_may (w' := kw_M4) g0 h_a0 (In_w (by decide : In 1 1 (1 : Int32)) (by decide) (by decide)) (by decide +kernel) (fun s7 g8 g8e c9 => ?_) (fun s7 g8 g8e => ?_)
    · refine r_ifF (by decide) ?_
      exact t_M_weakest_L22  hfsr0 kr_FU s7 a0 a1 (0 : Int32) (Rlweak g8 (by decide +kernel) (by decide) (by decide)) h_a0 (In_w q6 (by decide) (by decide)) (In_w (by decide : In 0 0 (0 : Int32)) (by decide) (by decide))  (by decide)
    · refine r_ifT (by decide) ?_
      exact r_some ⟨(Rlweak g8 (by decide +kernel) (by decide) (by decide)), trivial⟩
  · refine r_rv g0.1 h_a0 rfl ?_
    refine r_may (w' := kw_M4) g0 h_a0 (In_w (by decide : In 0 0 (0 : Int32)) (by decide) (by decide)) (by decide +kernel) (fun s10 g11 g11e c12 => ?_) (fun s10 g11 g11e => ?_)
    · exact absurd rfl c12
    · refine r_ifT (by decide) ?_
      exact r_some ⟨(Rlweak g11 (by decide +kernel) (by decide) (by decide)), trivial⟩
theorem t_M_points_B59 {T : Nat → Nat} {S0 S : AS} (g : Rl T kw_M4 S0 0 0 T S) {x0 : Option Nat} {x1 : Int32} {x2 : Int32} {x3 : Int32} {y0 : Int32} (h_x0 : Tx T 100 x0) (h_x1 : In 0 2 x1) : Ho (f_M_points_B59  S x0 x1 x2 x3 y0) (fun q => Rl T kw_M25 S0 0 0 T q.2 ∧ True) := by
  unfold f_M_points_B59
  refine r_if (fun c1 => ?_) (fun c1 => ?_)
  · have q2 : In 0 0 x3 := In_w (In_eq c1 (by decide : In 0 0 (0 : Int32))) (by decide) (by decide)
    refine r_gR g.1 h_x0 rfl rfl (fun v1 h3 => ?_)
    refine r_bIs (w' := kw_M23) g h3 rfl (p := 73) rfl rfl (In_w h_x1 (by decide) (by decide) : In 0 2 x1) (by decide) (fun _ _ _ q => by cases q) (fun _ => rfl) (by decide) (by decide +kernel) (fun _ => by unfold phc; omega) (fun s4 g5 e6 => ?_)
    exact r_some ⟨(Rlweak g5 (by decide +kernel) (by decide) (by decide)), trivial⟩
  · refine r_gR g.1 h_x0 rfl rfl (fun v3 h7 => ?_)
    refine r_bIs (w' := kw_M24) g h7 rfl (p := 74) rfl rfl (In_w h_x1 (by decide) (by decide) : In 0 2 x1) (by decide) (fun _ _ _ q => by cases q) (fun _ => rfl) (by decide) (by decide +kernel) (fun _ => by unfold phc; omega) (fun s8 g9 e10 => ?_)
    exact r_some ⟨(Rlweak g9 (by decide +kernel) (by decide) (by decide)), trivial⟩
theorem t_M_points_B32_4t100_5c1 {T : Nat → Nat} {S0 S : AS} (g : Rl T [] S0 0 0 T S) {x0 : Option Nat} {x1 : Int32} {x2 : Int32} {x3 : Int32} {y0 : Option Nat} (h_x0 : Tx T 100 x0) (h_x1 : In 0 2 x1) (h_y0 : Tx T 100 y0) : Ho (f_M_points_B32  S x0 x1 x2 x3 y0 (1 : Int32)) (fun q => Rl T kw_M25 S0 0 0 T q.2 ∧ True) := by
  unfold f_M_points_B32
  refine r_rv g.1 h_y0 rfl ?_
  refine r_may (w' := kw_M4) g h_y0 (In_w (by decide : In 1 1 (1 : Int32)) (by decide) (by decide)) (by decide +kernel) (fun s1 g2 g2e c3 => ?_) (fun s1 g2 g2e => ?_)
  · refine r_ifF (by decide) ?_
    refine r_if (fun c4 => ?_) (fun c4 => ?_)
    · have q5 : In 0 0 x3 := In_w (In_eq c4 (by decide : In 0 0 (0 : Int32))) (by decide) (by decide)
      refine r_gR g2.1 h_x0 rfl rfl (fun v8 h6 => ?_)
      refine r_aIs g2.1 h6 rfl (p := 73) rfl rfl (In_w h_x1 (by decide) (by decide) : In 0 2 x1) (by decide) (fun v9 b7 e8 => ?_)
      exact t_M_points_B59 (Rlweak g2 (by decide +kernel) (by decide) (by decide))  h_x0 (In_w h_x1 (by decide) (by decide)) 
    · refine r_gR g2.1 h_x0 rfl rfl (fun v10 h9 => ?_)
      refine r_aIs g2.1 h9 rfl (p := 74) rfl rfl (In_w h_x1 (by decide) (by decide) : In 0 2 x1) (by decide) (fun v11 b10 e11 => ?_)
      exact t_M_points_B59 (Rlweak g2 (by decide +kernel) (by decide) (by decide))  h_x0 (In_w h_x1 (by decide) (by decide)) 
  · refine r_ifT (by decide) ?_
    exact r_some ⟨(Rlweak g2 (by decide +kernel) (by decide) (by decide)), trivial⟩
theorem t_M_points_B32_4t100_5c0 {T : Nat → Nat} {S0 S : AS} (g : Rl T [] S0 0 0 T S) {x0 : Option Nat} {x1 : Int32} {x2 : Int32} {x3 : Int32} {y0 : Option Nat} (h_x0 : Tx T 100 x0) (h_y0 : Tx T 100 y0) : Ho (f_M_points_B32  S x0 x1 x2 x3 y0 (0 : Int32)) (fun q => Rl T kw_M25 S0 0 0 T q.2 ∧ True) := by
  unfold f_M_points_B32
  refine r_rv g.1 h_y0 rfl ?_
  refine r_may (w' := kw_M4) g h_y0 (In_w (by decide : In 0 0 (0 : Int32)) (by decide) (by decide)) (by decide +kernel) (fun s1 g2 g2e c3 => ?_) (fun s1 g2 g2e => ?_)
  · exact absurd rfl c3
  · refine r_ifT (by decide) ?_
    exact r_some ⟨(Rlweak g2 (by decide +kernel) (by decide) (by decide)), trivial⟩
theorem t_M_points_B31_4t100 {T : Nat → Nat} {S0 S : AS} (g : Rl T [] S0 0 0 T S) {x0 : Option Nat} {x1 : Int32} {x2 : Int32} {x3 : Int32} {y0 : Option Nat} (h_x0 : Tx T 100 x0) (h_y0 : Tx T 100 y0) : Ho (f_M_points_B31  S x0 x1 x2 x3 y0) (fun q => Rl T kw_M25 S0 0 0 T q.2 ∧ True) := by
  unfold f_M_points_B31
  exact t_M_points_B32_4t100_5c0 (Rlweak g (by decide +kernel) (by decide) (by decide))  h_x0 h_y0 
theorem t_M_points_B20_4t100_6c0 {T : Nat → Nat} {S0 S : AS} (g : Rl T [] S0 0 0 T S) {x0 : Option Nat} {x1 : Int32} {x2 : Int32} {x3 : Int32} {y0 : Option Nat} {y1 : Int32} (h_x0 : Tx T 100 x0) (h_x1 : In 0 2 x1) (h_x3 : In 0 0 x3) (h_y0 : Tx T 100 y0) : Ho (f_M_points_B20  S x0 x1 x2 x3 y0 y1 (0 : Int32)) (fun q => Rl T kw_M25 S0 0 0 T q.2 ∧ True) := by
  unfold f_M_points_B20
  refine r_Mi (fun p1 p1b => ?_) ?_
  · have q2 : In 0 2147483647 y1 := In_w (In_le2 p1 (by decide : In 0 0 (0 : Int32)) (In_top y1)) (by decide) (by decide)
    have q3 : In 0 5 y1 := In_w (In_le1 p1b q2 (by decide : In 5 5 (5 : Int32))) (by decide) (by decide)
    refine r_ifF (by decide) ?_
    exact t_M_points_B32_4t100_5c1 (Rlweak g (by decide +kernel) (by decide) (by decide))  h_x0 (In_w h_x1 (by decide) (by decide)) h_y0 
  · refine r_ifT (by decide) ?_
    exact t_M_points_B31_4t100 (Rlweak g (by decide +kernel) (by decide) (by decide))  h_x0 h_y0 
theorem t_M_points_B20_4t100_6cm1 {T : Nat → Nat} {S0 S : AS} (g : Rl T [] S0 0 0 T S) {x0 : Option Nat} {x1 : Int32} {x2 : Int32} {x3 : Int32} {y0 : Option Nat} {y1 : Int32} (h_x0 : Tx T 100 x0) (h_x1 : In 0 2 x1) (h_y0 : Tx T 100 y0) : Ho (f_M_points_B20  S x0 x1 x2 x3 y0 y1 (-1 : Int32)) (fun q => Rl T kw_M25 S0 0 0 T q.2 ∧ True) := by
  unfold f_M_points_B20
  refine r_Mi (fun p1 p1b => ?_) ?_
  · have q2 : In (-1) 2147483647 y1 := In_w (In_le2 p1 (by decide : In (-1) (-1) (-1 : Int32)) (In_top y1)) (by decide) (by decide)
    have q3 : In (-1) 5 y1 := In_w (In_le1 p1b q2 (by decide : In 5 5 (5 : Int32))) (by decide) (by decide)
    refine r_ifF (by decide) ?_
    exact t_M_points_B32_4t100_5c1 (Rlweak g (by decide +kernel) (by decide) (by decide))  h_x0 (In_w h_x1 (by decide) (by decide)) h_y0 
  · refine r_ifT (by decide) ?_
    exact t_M_points_B31_4t100 (Rlweak g (by decide +kernel) (by decide) (by decide))  h_x0 h_y0 
theorem t_M_points {T : Nat → Nat} {S : AS} (hT : TI T S) {a0 : Option Nat} {a1 : Int32} {a2 : Int32} {a3 : Int32} (h_a0 : Tx T 100 a0) : Ho (f_M_points  S a0 a1 a2 a3) (fun q => Rl T kw_M25 S 0 0 T q.2 ∧ True) := by
  have g0 := Rlrf hT
  unfold f_M_points
  refine r_Mi (fun p1 p1b => ?_) ?_
  · have q2 : In 0 2147483647 a1 := In_w (In_le2 p1 (by decide : In 0 0 (0 : Int32)) (In_top a1)) (by decide) (by decide)
    have q3 : In 0 2 a1 := In_w (In_le1 p1b q2 (by decide : In 2 2 (2 : Int32))) (by decide) (by decide)
    refine r_ifF (by decide) ?_
    refine r_if (fun c4 => ?_) (fun c4 => ?_)
    · have q5 : In 0 0 a3 := In_w (In_eq c4 (by decide : In 0 0 (0 : Int32))) (by decide) (by decide)
      exact t_M_points_B20_4t100_6c0 (Rlweak g0 (by decide +kernel) (by decide) (by decide))  h_a0 (In_w q3 (by decide) (by decide)) (In_w q5 (by decide) (by decide)) h_a0 
    · exact t_M_points_B20_4t100_6cm1 (Rlweak g0 (by decide +kernel) (by decide) (by decide))  h_a0 (In_w q3 (by decide) (by decide)) h_a0
  · refine r_ifT (by decide) ?_
    exact t_M_points_B31_4t100 (Rlweak g0 (by decide +kernel) (by decide) (by decide))  h_a0 h_a0 
theorem t_M_wrongs_B35_4c0 {T : Nat → Nat} {S : AS} (hT : TI T S) {x0 : Option Nat} {x1 : Int32} {x3 : Int32} {y0 : Int32} {k4 : AS → Option Nat → Int32 → Int32 → Int32 → Option (Int32 × AS)} {n4 : Nat} (hk4 : ∀ (z0 : Option Nat) (z1 : Int32) (z2 : Int32) (z3 : Int32), Tx T 100 z0 → In 0 5 z1 → In 0 3 z3 → (3 + 1 : Int) ≤ z3.toInt + (n4 : Int) → Ho (k4 S z0 z1 z2 z3) (fun q => q.2 = S ∧ True)) (hm4 : (3 + 1 : Int) ≤ x3.toInt + ((n4 + 1 : Nat) : Int)) (h_x0 : Tx T 100 x0) (h_x1 : In 0 5 x1) (h_x3 : In 0 2 x3) : Ho (f_M_wrongs_B35 k4 S x0 x1 x3 y0 (0 : Int32)) (fun q => q.2 = S ∧ True) := by
  unfold f_M_wrongs_B35
  refine r_val ?_
  generalize ei1 : (y0 + (0 : Int32)) = i1
  refine r_val ?_
  generalize ei2 : (x3 + (1 : Int32)) = i2
  have qi2 : In 1 3 i2 := by rw [← ei2]; exact (In_w (In_add h_x3 (by decide : In 1 1 (1 : Int32)) (by decide) (by decide)) (by decide) (by decide) : In 1 3 (x3 + (1 : Int32)))
  exact hk4  x0 x1 i1 i2  h_x0 (In_w h_x1 (by decide) (by decide)) (In_w qi2 (by decide) (by decide))  (by rw [← ei2, toInt_add1 h_x3 (by decide) (by decide)]; omega)
theorem t_M_wrongs_B35_4c1 {T : Nat → Nat} {S : AS} (hT : TI T S) {x0 : Option Nat} {x1 : Int32} {x3 : Int32} {y0 : Int32} {k4 : AS → Option Nat → Int32 → Int32 → Int32 → Option (Int32 × AS)} {n4 : Nat} (hk4 : ∀ (z0 : Option Nat) (z1 : Int32) (z2 : Int32) (z3 : Int32), Tx T 100 z0 → In 0 5 z1 → In 0 3 z3 → (3 + 1 : Int) ≤ z3.toInt + (n4 : Int) → Ho (k4 S z0 z1 z2 z3) (fun q => q.2 = S ∧ True)) (hm4 : (3 + 1 : Int) ≤ x3.toInt + ((n4 + 1 : Nat) : Int)) (h_x0 : Tx T 100 x0) (h_x1 : In 0 5 x1) (h_x3 : In 0 2 x3) : Ho (f_M_wrongs_B35 k4 S x0 x1 x3 y0 (1 : Int32)) (fun q => q.2 = S ∧ True) := by
  unfold f_M_wrongs_B35
  refine r_val ?_
  generalize ei1 : (y0 + (1 : Int32)) = i1
  refine r_val ?_
  generalize ei2 : (x3 + (1 : Int32)) = i2
  have qi2 : In 1 3 i2 := by rw [← ei2]; exact (In_w (In_add h_x3 (by decide : In 1 1 (1 : Int32)) (by decide) (by decide)) (by decide) (by decide) : In 1 3 (x3 + (1 : Int32)))
  exact hk4  x0 x1 i1 i2  h_x0 (In_w h_x1 (by decide) (by decide)) (In_w qi2 (by decide) (by decide))  (by rw [← ei2, toInt_add1 h_x3 (by decide) (by decide)]; omega)
theorem t_M_wrongs_C4 {T : Nat → Nat} {S : AS} (hT : TI T S) {x0 : Option Nat} {x1 : Int32} {x2 : Int32} {x3 : Int32} {k4 : AS → Option Nat → Int32 → Int32 → Int32 → Option (Int32 × AS)} {n4 : Nat} (hk4 : ∀ (z0 : Option Nat) (z1 : Int32) (z2 : Int32) (z3 : Int32), Tx T 100 z0 → In 0 5 z1 → In 0 3 z3 → (3 + 1 : Int) ≤ z3.toInt + (n4 : Int) → Ho (k4 S z0 z1 z2 z3) (fun q => q.2 = S ∧ True)) (hm4 : (3 + 1 : Int) ≤ x3.toInt + ((n4 + 1 : Nat) : Int)) (h_x0 : Tx T 100 x0) (h_x1 : In 0 5 x1) (h_x3 : In 0 3 x3) : Ho (f_M_wrongs_C4 k4 S x0 x1 x2 x3) (fun q => q.2 = S ∧ True) := by
  unfold f_M_wrongs_C4
  refine r_if (fun c1 => ?_) (fun c1 => ?_)
  · have q2 : In 3 3 x3 := In_w (In_le2 c1 (by decide : In 3 3 (3 : Int32)) h_x3) (by decide) (by decide)
    exact r_some ⟨rfl, trivial⟩
  · have q3 : In 0 2 x3 := In_w (In_lt1 (Int32.not_le.mp c1) h_x3 (by decide : In 3 3 (3 : Int32))) (by decide) (by decide)
    refine r_gIs hT h_x0 rfl (p := 57) rfl (fun v3 b4 e5 => ?_)
    refine r_gR hT h_x0 rfl rfl (fun v4 h6 => ?_)
    refine r_aIs hT h6 rfl (p := 61) rfl rfl (In_w (In_w (In_add (In_w (In_mulc (k := 3) h_x1 (by decide) (by decide) (by decide) (by decide)) (by decide) (by decide) : In 0 15 ((3 : Int32) * x1)) q3 (by decide) (by decide)) (by decide) (by decide) : In 0 17 (((3 : Int32) * x1) + x3)) (by decide) (by decide) : In 0 17 (((3 : Int32) * x1) + x3)) (by decide) (fun v5 b7 e8 => ?_)
    refine r_if (fun c9 => ?_) (fun c9 => ?_)
    · exact t_M_wrongs_B35_4c0 hT hk4 hm4 h_x0 (In_w h_x1 (by decide) (by decide)) (In_w q3 (by decide) (by decide))
    · exact t_M_wrongs_B35_4c1 hT hk4 hm4 h_x0 (In_w h_x1 (by decide) (by decide)) (In_w q3 (by decide) (by decide))
theorem t_M_wrongs_L4 {T : Nat → Nat} {S : AS} (hT : TI T S) : ∀ (n : Nat) (x0 : Option Nat) (x1 : Int32) (x2 : Int32) (x3 : Int32), Tx T 100 x0 → In 0 5 x1 → In 0 3 x3 → (3 + 1 : Int) ≤ x3.toInt + (n : Int) → Ho (f_M_wrongs_L4  n S x0 x1 x2 x3) (fun q => q.2 = S ∧ True) := by
  intro n
  induction n with
  | zero =>
    intro x0 x1 x2 x3 h_x0 h_x1 h_x3 hm
    exact absurd hm (by have := h_x3.2; omega)
  | succ n ih =>
    intro x0 x1 x2 x3 h_x0 h_x1 h_x3 hm
    exact t_M_wrongs_C4 hT  (fun z0 z1 z2 z3 a_h_x0 a_h_x1 a_h_x3 am => ih z0 z1 z2 z3 a_h_x0 a_h_x1 a_h_x3 am) hm h_x0 h_x1 h_x3 
theorem t_M_wrongs {T : Nat → Nat} {S : AS} (hT : TI T S) {a0 : Option Nat} {a1 : Int32} (h_a0 : Tx T 100 a0) (h_a1 : In 0 5 a1) : Ho (f_M_wrongs  S a0 a1) (fun q => q.2 = S ∧ True) := by
  unfold f_M_wrongs
  exact t_M_wrongs_L4 hT   kr_FU  a0 a1 (0 : Int32) (0 : Int32)  h_a0 (In_w h_a1 (by decide) (by decide)) (In_w (by decide : In 0 0 (0 : Int32)) (by decide) (by decide))  (by decide)
theorem t_M_pointsOf_B23 {T : Nat → Nat} {S : AS} (hT : TI T S) {x0 : Option Nat} {x1 : Int32} (h_x0 : Tx T 100 x0) (h_x1 : In 0 2 x1) : Ho (f_M_pointsOf_B23  S x0 x1) (fun q => q.2 = S ∧ True) := by
  unfold f_M_pointsOf_B23
  refine r_gR hT h_x0 rfl rfl (fun v1 h1 => ?_)
  refine r_aIs hT h1 rfl (p := 73) rfl rfl (In_w h_x1 (by decide) (by decide) : In 0 2 x1) (by decide) (fun v2 b2 e3 => ?_)
  exact r_some ⟨rfl, trivial⟩
theorem t_M_pointsOf {T : Nat → Nat} {S : AS} (hT : TI T S) {a0 : Option Nat} {a1 : Int32} {a2 : Int32} (h_a0 : Tx T 100 a0) (h_a1 : In 0 2 a1) : Ho (f_M_pointsOf  S a0 a1 a2) (fun q => q.2 = S ∧ True) := by
  unfold f_M_pointsOf
  refine r_if (fun c1 => ?_) (fun c1 => ?_)
  · have q2 : In 0 0 a2 := In_w (In_eq c1 (by decide : In 0 0 (0 : Int32))) (by decide) (by decide)
    exact t_M_pointsOf_B23 hT  h_a0 (In_w h_a1 (by decide) (by decide)) 
  · refine r_gR hT h_a0 rfl rfl (fun v3 h3 => ?_)
    refine r_aIs hT h3 rfl (p := 74) rfl rfl (In_w h_a1 (by decide) (by decide) : In 0 2 a1) (by decide) (fun v4 b4 e5 => ?_)
    refine r_if (fun c6 => ?_) (fun c6 => ?_)
    · have q7 : In (-1) (-1) v4 := In_w (In_eq c6 (by decide : In (-1) (-1) (-1 : Int32))) (by decide) (by decide)
      exact t_M_pointsOf_B23 hT  h_a0 (In_w h_a1 (by decide) (by decide)) 
    · refine r_gR hT h_a0 rfl rfl (fun v5 h8 => ?_)
      refine r_aIs hT h8 rfl (p := 74) rfl rfl (In_w h_a1 (by decide) (by decide) : In 0 2 a1) (by decide) (fun v6 b9 e10 => ?_)
      exact r_some ⟨rfl, trivial⟩
theorem t_M_riskOf_B52 {T : Nat → Nat} {S : AS} (hT : TI T S) {x0 : Option Nat} {x1 : Int32} {x2 : Int32} {x3 : Int32} {y0 : Int32} {y1 : Int32} (h_x0 : Tx T 100 x0) (h_x1 : In 0 59 x1) (h_x3 : In 0 5 x3) : Ho (f_M_riskOf_B52  S x0 x1 x2 x3 y0 y1) (fun q => q.2 = S ∧ True) := by
  unfold f_M_riskOf_B52
  refine r_val ?_
  generalize ei1 : (y0 + y1) = i1
  refine r_gR hT h_x0 rfl rfl (fun v2 h1 => ?_)
  refine r_gR hT h_x0 rfl rfl (fun v3 h2 => ?_)
  refine r_aIs hT h2 rfl (p := 77) rfl rfl (In_w h_x1 (by decide) (by decide) : In 0 59 x1) (by decide) (fun v4 b3 e4 => ?_)
  have q5 : In 0 5 v4 := b3 _ _ rfl
  refine r_aIs hT h1 rfl (p := 63) rfl rfl (In_w (In_w (In_add (In_w (In_mulc (k := 6) h_x3 (by decide) (by decide) (by decide) (by decide)) (by decide) (by decide) : In 0 30 ((6 : Int32) * x3)) q5 (by decide) (by decide)) (by decide) (by decide) : In 0 35 (((6 : Int32) * x3) + v4)) (by decide) (by decide) : In 0 35 (((6 : Int32) * x3) + v4)) (by decide) (fun v5 b6 e7 => ?_)
  have q8 : In 0 1 v5 := b6 _ _ rfl
  refine r_if (fun c9 => ?_) (fun c9 => ?_)
  · have q10 : In 0 0 v5 := In_w (In_eq c9 (by decide : In 0 0 (0 : Int32))) (by decide) (by decide)
    refine r_rv hT h_x0 rfl ?_
    refine r_P (P := fun v => True) (t_M_pointsOf hT h_x0 (In_w (by decide : In 1 1 (1 : Int32)) (by decide) (by decide))) (fun v8 h11 => ?_)
    exact r_some ⟨rfl, trivial⟩
  · have q12 : In 1 1 v5 := In_w (In_neL c9 q8 (by decide)) (by decide) (by decide)
    exact r_some ⟨rfl, trivial⟩
theorem t_M_riskOf_B52_5c0 {T : Nat → Nat} {S : AS} (hT : TI T S) {x0 : Option Nat} {x1 : Int32} {x2 : Int32} {x3 : Int32} {y0 : Int32} (h_x0 : Tx T 100 x0) (h_x1 : In 0 59 x1) (h_x3 : In 0 5 x3) : Ho (f_M_riskOf_B52  S x0 x1 x2 x3 y0 (0 : Int32)) (fun q => q.2 = S ∧ True) := by
  unfold f_M_riskOf_B52
  refine r_val ?_
  generalize ei1 : (y0 + (0 : Int32)) = i1
  refine r_gR hT h_x0 rfl rfl (fun v2 h1 => ?_)
  refine r_gR hT h_x0 rfl rfl (fun v3 h2 => ?_)
  refine r_aIs hT h2 rfl (p := 77) rfl rfl (In_w h_x1 (by decide) (by decide) : In 0 59 x1) (by decide) (fun v4 b3 e4 => ?_)
  have q5 : In 0 5 v4 := b3 _ _ rfl
  refine r_aIs hT h1 rfl (p := 63) rfl rfl (In_w (In_w (In_add (In_w (In_mulc (k := 6) h_x3 (by decide) (by decide) (by decide) (by decide)) (by decide) (by decide) : In 0 30 ((6 : Int32) * x3)) q5 (by decide) (by decide)) (by decide) (by decide) : In 0 35 (((6 : Int32) * x3) + v4)) (by decide) (by decide) : In 0 35 (((6 : Int32) * x3) + v4)) (by decide) (fun v5 b6 e7 => ?_)
  have q8 : In 0 1 v5 := b6 _ _ rfl
  refine r_if (fun c9 => ?_) (fun c9 => ?_)
  · have q10 : In 0 0 v5 := In_w (In_eq c9 (by decide : In 0 0 (0 : Int32))) (by decide) (by decide)
    refine r_rv hT h_x0 rfl ?_
    refine r_P (P := fun v => True) (t_M_pointsOf hT h_x0 (In_w (by decide : In 1 1 (1 : Int32)) (by decide) (by decide))) (fun v8 h11 => ?_)
    exact r_some ⟨rfl, trivial⟩
  · have q12 : In 1 1 v5 := In_w (In_neL c9 q8 (by decide)) (by decide) (by decide)
    exact r_some ⟨rfl, trivial⟩
theorem t_M_riskOf {T : Nat → Nat} {S : AS} (hT : TI T S) {a0 : Option Nat} {a1 : Int32} {a2 : Int32} (h_a0 : Tx T 100 a0) (h_a1 : In 0 59 a1) : Ho (f_M_riskOf  S a0 a1 a2) (fun q => q.2 = S ∧ True) := by
  unfold f_M_riskOf
  refine r_gR hT h_a0 rfl rfl (fun v9 h1 => ?_)
  refine r_aIs hT h1 rfl (p := 75) rfl rfl (In_w h_a1 (by decide) (by decide) : In 0 59 a1) (by decide) (fun v10 b2 e3 => ?_)
  have q4 : In 0 5 v10 := b2 _ _ rfl
  refine r_rv hT h_a0 rfl ?_
  refine r_P (P := fun v => True) (t_M_wrongs hT h_a0 (In_w q4 (by decide) (by decide))) (fun v13 h5 => ?_)
  refine r_rv hT h_a0 rfl ?_
  refine r_P (P := fun v => True) (t_M_pointsOf hT h_a0 (In_w (by decide : In 2 2 (2 : Int32)) (by decide) (by decide))) (fun v16 h6 => ?_)
  refine r_val ?_
  generalize ei17 : (v13 * v16) = i17
  refine r_gR hT h_a0 rfl rfl (fun v18 h7 => ?_)
  refine r_gR hT h_a0 rfl rfl (fun v19 h8 => ?_)
  refine r_aIs hT h8 rfl (p := 76) rfl rfl (In_w h_a1 (by decide) (by decide) : In 0 59 a1) (by decide) (fun v20 b9 e10 => ?_)
  have q11 : In 0 5 v20 := b9 _ _ rfl
  refine r_aIs hT h7 rfl (p := 62) rfl rfl (In_w (In_w (In_add (In_w (In_mulc (k := 6) q4 (by decide) (by decide) (by decide) (by decide)) (by decide) (by decide) : In 0 30 ((6 : Int32) * v10)) q11 (by decide) (by decide)) (by decide) (by decide) : In 0 35 (((6 : Int32) * v10) + v20)) (by decide) (by decide) : In 0 35 (((6 : Int32) * v10) + v20)) (by decide) (fun v21 b12 e13 => ?_)
  have q14 : In 0 1 v21 := b12 _ _ rfl
  refine r_if (fun c15 => ?_) (fun c15 => ?_)
  · have q16 : In 0 0 v21 := In_w (In_eq c15 (by decide : In 0 0 (0 : Int32))) (by decide) (by decide)
    refine r_rv hT h_a0 rfl ?_
    refine r_P (P := fun v => True) (t_M_pointsOf hT h_a0 (In_w (by decide : In 0 0 (0 : Int32)) (by decide) (by decide))) (fun v24 h17 => ?_)
    exact t_M_riskOf_B52 hT  h_a0 (In_w h_a1 (by decide) (by decide)) (In_w q4 (by decide) (by decide)) 
  · have q18 : In 1 1 v21 := In_w (In_neL c15 q14 (by decide)) (by decide) (by decide)
    exact t_M_riskOf_B52_5c0 hT  h_a0 (In_w h_a1 (by decide) (by decide)) (In_w q4 (by decide) (by decide)) 
theorem t_M_shownIn_B31_4c0 {T : Nat → Nat} {S : AS} (hT : TI T S) {x0 : Option Nat} {x1 : Int32} {x3 : Int32} {y0 : Int32} {k4 : AS → Option Nat → Int32 → Int32 → Int32 → Option (Int32 × AS)} {n4 : Nat} (hk4 : ∀ (z0 : Option Nat) (z1 : Int32) (z2 : Int32) (z3 : Int32), Tx T 100 z0 → In 0 59 z1 → In 0 3 z3 → (3 + 1 : Int) ≤ z3.toInt + (n4 : Int) → Ho (k4 S z0 z1 z2 z3) (fun q => q.2 = S ∧ True)) (hm4 : (3 + 1 : Int) ≤ x3.toInt + ((n4 + 1 : Nat) : Int)) (h_x0 : Tx T 100 x0) (h_x1 : In 0 59 x1) (h_x3 : In 0 2 x3) : Ho (f_M_shownIn_B31 k4 S x0 x1 x3 y0 (0 : Int32)) (fun q => q.2 = S ∧ True) := by
  unfold f_M_shownIn_B31
  refine r_val ?_
  generalize ei1 : (y0 ||| (0 : Int32)) = i1
  refine r_val ?_
  generalize ei2 : (x3 + (1 : Int32)) = i2
  have qi2 : In 1 3 i2 := by rw [← ei2]; exact (In_w (In_add h_x3 (by decide : In 1 1 (1 : Int32)) (by decide) (by decide)) (by decide) (by decide) : In 1 3 (x3 + (1 : Int32)))
  exact hk4  x0 x1 i1 i2  h_x0 (In_w h_x1 (by decide) (by decide)) (In_w qi2 (by decide) (by decide))  (by rw [← ei2, toInt_add1 h_x3 (by decide) (by decide)]; omega)
theorem t_M_shownIn_B31 {T : Nat → Nat} {S : AS} (hT : TI T S) {x0 : Option Nat} {x1 : Int32} {x3 : Int32} {y0 : Int32} {y1 : Int32} {k4 : AS → Option Nat → Int32 → Int32 → Int32 → Option (Int32 × AS)} {n4 : Nat} (hk4 : ∀ (z0 : Option Nat) (z1 : Int32) (z2 : Int32) (z3 : Int32), Tx T 100 z0 → In 0 59 z1 → In 0 3 z3 → (3 + 1 : Int) ≤ z3.toInt + (n4 : Int) → Ho (k4 S z0 z1 z2 z3) (fun q => q.2 = S ∧ True)) (hm4 : (3 + 1 : Int) ≤ x3.toInt + ((n4 + 1 : Nat) : Int)) (h_x0 : Tx T 100 x0) (h_x1 : In 0 59 x1) (h_x3 : In 0 2 x3) (h_y1 : In 1 4 y1) : Ho (f_M_shownIn_B31 k4 S x0 x1 x3 y0 y1) (fun q => q.2 = S ∧ True) := by
  unfold f_M_shownIn_B31
  refine r_val ?_
  generalize ei1 : (y0 ||| y1) = i1
  refine r_val ?_
  generalize ei2 : (x3 + (1 : Int32)) = i2
  have qi2 : In 1 3 i2 := by rw [← ei2]; exact (In_w (In_add h_x3 (by decide : In 1 1 (1 : Int32)) (by decide) (by decide)) (by decide) (by decide) : In 1 3 (x3 + (1 : Int32)))
  exact hk4  x0 x1 i1 i2  h_x0 (In_w h_x1 (by decide) (by decide)) (In_w qi2 (by decide) (by decide))  (by rw [← ei2, toInt_add1 h_x3 (by decide) (by decide)]; omega)
theorem t_M_shownIn_C4 {T : Nat → Nat} {S : AS} (hT : TI T S) {x0 : Option Nat} {x1 : Int32} {x2 : Int32} {x3 : Int32} {k4 : AS → Option Nat → Int32 → Int32 → Int32 → Option (Int32 × AS)} {n4 : Nat} (hk4 : ∀ (z0 : Option Nat) (z1 : Int32) (z2 : Int32) (z3 : Int32), Tx T 100 z0 → In 0 59 z1 → In 0 3 z3 → (3 + 1 : Int) ≤ z3.toInt + (n4 : Int) → Ho (k4 S z0 z1 z2 z3) (fun q => q.2 = S ∧ True)) (hm4 : (3 + 1 : Int) ≤ x3.toInt + ((n4 + 1 : Nat) : Int)) (h_x0 : Tx T 100 x0) (h_x1 : In 0 59 x1) (h_x3 : In 0 3 x3) : Ho (f_M_shownIn_C4 k4 S x0 x1 x2 x3) (fun q => q.2 = S ∧ True) := by
  unfold f_M_shownIn_C4
  refine r_if (fun c1 => ?_) (fun c1 => ?_)
  · have q2 : In 3 3 x3 := In_w (In_le2 c1 (by decide : In 3 3 (3 : Int32)) h_x3) (by decide) (by decide)
    exact r_some ⟨rfl, trivial⟩
  · have q3 : In 0 2 x3 := In_w (In_lt1 (Int32.not_le.mp c1) h_x3 (by decide : In 3 3 (3 : Int32))) (by decide) (by decide)
    refine r_gR hT h_x0 rfl rfl (fun v3 h4 => ?_)
    refine r_aIs hT h4 rfl (p := 84) rfl rfl (In_w (In_w (In_add (In_w (In_mulc (k := 3) h_x1 (by decide) (by decide) (by decide) (by decide)) (by decide) (by decide) : In 0 177 ((3 : Int32) * x1)) q3 (by decide) (by decide)) (by decide) (by decide) : In 0 179 (((3 : Int32) * x1) + x3)) (by decide) (by decide) : In 0 179 (((3 : Int32) * x1) + x3)) (by decide) (fun v4 b5 e6 => ?_)
    refine r_if (fun c7 => ?_) (fun c7 => ?_)
    · have q8 : In (-1) (-1) v4 := In_w (In_eq c7 (by decide : In (-1) (-1) (-1 : Int32))) (by decide) (by decide)
      exact t_M_shownIn_B31_4c0 hT hk4 hm4 h_x0 (In_w h_x1 (by decide) (by decide)) (In_w q3 (by decide) (by decide)) 
    · exact t_M_shownIn_B31 hT hk4 hm4 h_x0 (In_w h_x1 (by decide) (by decide)) (In_w q3 (by decide) (by decide)) (In_w (In_w (In_shl2 (In_w q3 (by decide) (by decide))) (by decide) (by decide) : In 1 4 ((1 : Int32) <<< (x3 &&& (31 : Int32)))) (by decide) (by decide))
theorem t_M_shownIn_L4 {T : Nat → Nat} {S : AS} (hT : TI T S) : ∀ (n : Nat) (x0 : Option Nat) (x1 : Int32) (x2 : Int32) (x3 : Int32), Tx T 100 x0 → In 0 59 x1 → In 0 3 x3 → (3 + 1 : Int) ≤ x3.toInt + (n : Int) → Ho (f_M_shownIn_L4  n S x0 x1 x2 x3) (fun q => q.2 = S ∧ True) := by
  intro n
  induction n with
  | zero =>
    intro x0 x1 x2 x3 h_x0 h_x1 h_x3 hm
    exact absurd hm (by have := h_x3.2; omega)
  | succ n ih =>
    intro x0 x1 x2 x3 h_x0 h_x1 h_x3 hm
    exact t_M_shownIn_C4 hT  (fun z0 z1 z2 z3 a_h_x0 a_h_x1 a_h_x3 am => ih z0 z1 z2 z3 a_h_x0 a_h_x1 a_h_x3 am) hm h_x0 h_x1 h_x3 
theorem t_M_shownIn {T : Nat → Nat} {S : AS} (hT : TI T S) {a0 : Option Nat} {a1 : Int32} (h_a0 : Tx T 100 a0) (h_a1 : In 0 59 a1) : Ho (f_M_shownIn  S a0 a1) (fun q => q.2 = S ∧ True) := by
  unfold f_M_shownIn
  exact t_M_shownIn_L4 hT   kr_FU  a0 a1 (0 : Int32) (0 : Int32)  h_a0 (In_w h_a1 (by decide) (by decide)) (In_w (by decide : In 0 0 (0 : Int32)) (by decide) (by decide))  (by decide)
theorem t_M_holds {T : Nat → Nat} {S : AS} (hT : TI T S) {a0 : Option Nat} {a1 : Int32} {a2 : Int32} (h_a0 : Tx T 100 a0) (h_a1 : In 0 59 a1) (h_a2 : In 0 107 a2) (hfsr0 : SR S) : Ho (f_M_holds  S a0 a1 a2) (fun q => q.2 = S ∧ In 0 1 q.1) := by
  unfold f_M_holds
  refine r_gR hT h_a0 rfl rfl (fun v1 h1 => ?_)
  refine r_aIs hT h1 rfl (p := 75) rfl rfl (In_w h_a1 (by decide) (by decide) : In 0 59 a1) (by decide) (fun v2 b2 e3 => ?_)
  have q4 : In 0 5 v2 := b2 _ _ rfl
  refine r_gR hT h_a0 rfl rfl (fun v3 h5 => ?_)
  refine r_aIs hT h5 rfl (p := 67) rfl rfl (In_w h_a2 (by decide) (by decide) : In 0 107 a2) (by decide) (fun v4 b6 e7 => ?_)
  have q8 : In 0 6 v4 := b6 _ _ rfl
  refine r_if (fun c9 => ?_) (fun c9 => ?_)
  · have q10 : In 1 1 v4 := In_w (In_eq c9 (by decide : In 1 1 (1 : Int32))) (by decide) (by decide)
    refine r_gR hT h_a0 rfl rfl (fun v5 h11 => ?_)
    refine r_gR hT h_a0 rfl rfl (fun v6 h12 => ?_)
    refine r_aIs hT h12 rfl (p := 76) rfl rfl (In_w h_a1 (by decide) (by decide) : In 0 59 a1) (by decide) (fun v7 b13 e14 => ?_)
    have q15 : In 0 5 v7 := b13 _ _ rfl
    refine r_aIs hT h11 rfl (p := 62) rfl rfl (In_w (In_w (In_add (In_w (In_mulc (k := 6) q4 (by decide) (by decide) (by decide) (by decide)) (by decide) (by decide) : In 0 30 ((6 : Int32) * v2)) q15 (by decide) (by decide)) (by decide) (by decide) : In 0 35 (((6 : Int32) * v2) + v7)) (by decide) (by decide) : In 0 35 (((6 : Int32) * v2) + v7)) (by decide) (fun v8 b16 e17 => ?_)
    have q18 : In 0 1 v8 := b16 _ _ rfl
    refine r_z (In_w q18 (by decide) (by decide)) ?_
    exact r_some ⟨rfl, (In_w q18 (by decide) (by decide))⟩
  · refine r_gR hT h_a0 rfl rfl (fun v10 h19 => ?_)
    refine r_aIs hT h19 rfl (p := 67) rfl rfl (In_w h_a2 (by decide) (by decide) : In 0 107 a2) (by decide) (fun v11 b20 e21 => ?_)
    have q22 : In 0 6 v11 := b20 _ _ rfl
    refine r_if (fun c23 => ?_) (fun c23 => ?_)
    · have q24 : In 2 2 v11 := In_w (In_eq c23 (by decide : In 2 2 (2 : Int32))) (by decide) (by decide)
      refine r_rv hT h_a0 rfl ?_
      refine r_P (P := fun v => True) (t_M_riskOf hT h_a0 (In_w h_a1 (by decide) (by decide))) (fun v14 h25 => ?_)
      refine r_gR hT h_a0 rfl rfl (fun v15 h26 => ?_)
      refine r_aIs hT h26 rfl (p := 68) rfl rfl (In_w h_a2 (by decide) (by decide) : In 0 107 a2) (by decide) (fun v16 b27 e28 => ?_)
      have q29 : In 0 20 v16 := b27 _ _ rfl
      refine r_if (fun c30 => ?_) (fun c30 => ?_)
      · have q31 : In (-2147483648) 19 v14 := In_w (In_lt1 c30 (In_top v14) q29) (by decide) (by decide)
        exact r_some ⟨rfl, (In_w (by decide : In 0 0 (0 : Int32)) (by decide) (by decide))⟩
      · have q32 : In 0 2147483647 v14 := In_w (In_le2 (Int32.not_lt.mp c30) q29 (In_top v14)) (by decide) (by decide)
        exact r_some ⟨rfl, (In_w (by decide : In 1 1 (1 : Int32)) (by decide) (by decide))⟩
    · refine r_gR hT h_a0 rfl rfl (fun v17 h33 => ?_)
      refine r_aIs hT h33 rfl (p := 67) rfl rfl (In_w h_a2 (by decide) (by decide) : In 0 107 a2) (by decide) (fun v18 b34 e35 => ?_)
      have q36 : In 0 6 v18 := b34 _ _ rfl
      refine r_if (fun c37 => ?_) (fun c37 => ?_)
      · have q38 : In 3 3 v18 := In_w (In_eq c37 (by decide : In 3 3 (3 : Int32))) (by decide) (by decide)
        refine r_gR hT h_a0 rfl rfl (fun v19 h39 => ?_)
        refine r_gR hT h_a0 rfl rfl (fun v20 h40 => ?_)
        refine r_aIs hT h40 rfl (p := 68) rfl rfl (In_w h_a2 (by decide) (by decide) : In 0 107 a2) (by decide) (fun v21 b41 e42 => ?_)
        have q43 : In 0 20 v21 := b41 _ _ rfl
        have q44 : In 0 2 v21 := In_w (SR_a3 hfsr0 (In_w h_a2 (by decide) (by decide) : In 0 107 a2) (In_cell e35 q38) e42) (by decide) (by decide)
        refine r_aIs hT h39 rfl (p := 58) rfl rfl (In_w (In_w (In_add (In_w (In_mulc (k := 3) q4 (by decide) (by decide) (by decide) (by decide)) (by decide) (by decide) : In 0 15 ((3 : Int32) * v2)) q44 (by decide) (by decide)) (by decide) (by decide) : In 0 17 (((3 : Int32) * v2) + v21)) (by decide) (by decide) : In 0 17 (((3 : Int32) * v2) + v21)) (by decide) (fun v22 b45 e46 => ?_)
        have q47 : In 0 2 v22 := b45 _ _ rfl
        refine r_if (fun c48 => ?_) (fun c48 => ?_)
        · have q49 : In 1 1 v22 := In_w (In_eq c48 (by decide : In 1 1 (1 : Int32))) (by decide) (by decide)
          exact r_some ⟨rfl, (In_w (by decide : In 1 1 (1 : Int32)) (by decide) (by decide))⟩
        · exact r_some ⟨rfl, (In_w (by decide : In 0 0 (0 : Int32)) (by decide) (by decide))⟩
      · refine r_rv hT h_a0 rfl ?_
        refine r_P (P := fun v => True) (t_M_shownIn hT h_a0 (In_w h_a1 (by decide) (by decide))) (fun v25 h50 => ?_)
        refine r_P (P := fun v => True) (t_M_levelOf hT ) (fun v27 h51 => ?_)
        refine r_gR hT h_a0 rfl rfl (fun v28 h52 => ?_)
        refine r_aIs hT h52 rfl (p := 68) rfl rfl (In_w h_a2 (by decide) (by decide) : In 0 107 a2) (by decide) (fun v29 b53 e54 => ?_)
        have q55 : In 0 20 v29 := b53 _ _ rfl
        refine r_if (fun c56 => ?_) (fun c56 => ?_)
        · have q57 : In (-2147483648) 19 v27 := In_w (In_lt1 c56 (In_top v27) q55) (by decide) (by decide)
          exact r_some ⟨rfl, (In_w (by decide : In 0 0 (0 : Int32)) (by decide) (by decide))⟩
        · have q58 : In 0 2147483647 v27 := In_w (In_le2 (Int32.not_lt.mp c56) q55 (In_top v27)) (by decide) (by decide)
          exact r_some ⟨rfl, (In_w (by decide : In 1 1 (1 : Int32)) (by decide) (by decide))⟩
theorem t_M_newSession_C49 {T : Nat → Nat} {S0 S : AS} (g : Rl T kw_M31 S0 1 0 T S) {x0 : Option Nat} {x3 : Int32} {x4 : Int32} {k49 : AS → Option Nat → Int32 → Int32 → Option (Int32 × AS)} {n49 : Nat} (hk49 : ∀ (S' : AS) (z0 : Option Nat) (z1 : Int32) (z2 : Int32), Rl T kw_M31 S0 1 0 T S' → Tx T 100 z0 → In 0 59 z1 → In 0 3 z2 → sC S' ≤ sC S0 + 0 → In 0 59 (sI S' 57 30) → (3 + 1 : Int) ≤ z2.toInt + (n49 : Int) → Ho (k49 S' z0 z1 z2) (fun q => Rl T kw_M32 S0 0 0 T q.2 ∧ In 0 59 q.1)) (hm49 : (3 + 1 : Int) ≤ x4.toInt + ((n49 + 1 : Nat) : Int)) (h_x0 : Tx T 100 x0) (h_x3 : In 0 59 x3) (h_x4 : In 0 3 x4) (hx_CC : sC S ≤ sC S0 + 0) (hx_57_30 : In 0 59 (sI S 57 30)) (hfph0 : Ph S0 ≤ 1180) : Ho (f_M_newSession_C49 k49 S x0 x3 x4) (fun q => Rl T kw_M32 S0 0 0 T q.2 ∧ In 0 59 q.1) := by
  unfold f_M_newSession_C49
  refine r_if (fun c1 => ?_) (fun c1 => ?_)
  · have q2 : In 3 3 x4 := In_w (In_le2 c1 (by decide : In 3 3 (3 : Int32)) h_x4) (by decide) (by decide)
    refine r_gIs g.1 h_x0 rfl (p := 57) rfl (fun v1 b3 e4 => ?_)
    have q5 : In 0 60 v1 := b3 _ _ rfl
    have q6 : In 0 59 v1 := In_w (In_read e4 hx_57_30) (by decide) (by decide)
    refine r_sesw (w' := kw_M32) g hx_CC h_x0 h_x0 (In_w q6 (by decide) (by decide)) e4 (phS hfph0 g (by decide)) (by decide +kernel) (fun s9 g10 => ?_)
    exact r_some ⟨(Rlweak g10 (by decide +kernel) (by decide) (by decide)), (In_w h_x3 (by decide) (by decide))⟩
  · have q11 : In 0 2 x4 := In_w (In_lt1 (Int32.not_le.mp c1) h_x4 (by decide : In 3 3 (3 : Int32))) (by decide) (by decide)
    refine r_gR g.1 h_x0 rfl rfl (fun v5 h12 => ?_)
    refine r_bIs (w' := kw_M31) g h12 rfl (p := 90) rfl rfl (In_w (In_w (In_add (In_w (In_mulc (k := 3) h_x3 (by decide) (by decide) (by decide) (by decide)) (by decide) (by decide) : In 0 177 ((3 : Int32) * x3)) q11 (by decide) (by decide)) (by decide) (by decide) : In 0 179 (((3 : Int32) * x3) + x4)) (by decide) (by decide) : In 0 179 (((3 : Int32) * x3) + x4)) (by decide) (fun _ _ _ q => by cases q) (fun _ => rfl) (by decide) (by decide +kernel) (fun _ => by unfold phc; omega) (fun s13 g14 e15 => ?_)
    have f16 : In 0 59 (sI s13 57 30) := In_ne e15 (by omega) hx_57_30
    have f17 : In (-1) (-1) (sI s13 90 (((3 : Int32) * x3) + x4).toNatClampNeg) := In_eqw e15 (In_w (by decide : In (-1) (-1) (-1 : Int32)) (by decide) (by decide))
    have C18 : sC s13 ≤ sC S0 + 0 := by rw [e15]; exact hx_CC
    refine r_val ?_
    generalize ei7 : (x4 + (1 : Int32)) = i7
    have qi7 : In 1 3 i7 := by rw [← ei7]; exact (In_w (In_add q11 (by decide : In 1 1 (1 : Int32)) (by decide) (by decide)) (by decide) (by decide) : In 1 3 (x4 + (1 : Int32)))
    exact hk49 s13 x0 x3 i7 (Rlweak g14 (by decide +kernel) (by decide) (by decide)) h_x0 (In_w h_x3 (by decide) (by decide)) (In_w qi7 (by decide) (by decide)) C18 (In_w f16 (by decide) (by decide))  (by rw [← ei7, toInt_add1 q11 (by decide) (by decide)]; omega)
theorem t_M_newSession_L49 {T : Nat → Nat} {S0 : AS} (hfph0 : Ph S0 ≤ 1180) : ∀ (n : Nat) (S : AS) (x0 : Option Nat) (x3 : Int32) (x4 : Int32), Rl T kw_M31 S0 1 0 T S → Tx T 100 x0 → In 0 59 x3 → In 0 3 x4 → sC S ≤ sC S0 + 0 → In 0 59 (sI S 57 30) → (3 + 1 : Int) ≤ x4.toInt + (n : Int) → Ho (f_M_newSession_L49  n S x0 x3 x4) (fun q => Rl T kw_M32 S0 0 0 T q.2 ∧ In 0 59 q.1) := by
  intro n
  induction n with
  | zero =>
    intro S x0 x3 x4 g h_x0 h_x3 h_x4 hx_CC hx_57_30 hm
    exact absurd hm (by have := h_x4.2; omega)
  | succ n ih =>
    intro S x0 x3 x4 g h_x0 h_x3 h_x4 hx_CC hx_57_30 hm
    exact t_M_newSession_C49 g  (fun S' z0 z1 z2 g' a_h_x0 a_h_x3 a_h_x4 a_hx_CC a_hx_57_30 am => ih S' z0 z1 z2 g' a_h_x0 a_h_x3 a_h_x4 a_hx_CC a_hx_57_30 am) hm h_x0 h_x3 h_x4 hx_CC hx_57_30 hfph0
theorem t_M_newSession {T : Nat → Nat} {S : AS} (hT : TI T S) {a0 : Option Nat} {a1 : Int32} {a2 : Int32} (h_a0 : Tx T 100 a0) (h_a1 : In 0 5 a1) (h_a2 : In (-1) 59 a2) (hx_57_30 : In 0 59 (sI S 57 30)) (hfph0 : Ph S ≤ 1180) : Ho (f_M_newSession  S a0 a1 a2) (fun q => Rl T kw_M32 S 0 0 T q.2 ∧ In 0 59 q.1) := by
  have g0 := Rlrf hT
  unfold f_M_newSession
  refine r_gIs g0.1 h_a0 rfl (p := 57) rfl (fun v8 b1 e2 => ?_)
  have q3 : In 0 60 v8 := b1 _ _ rfl
  have q4 : In 0 59 v8 := In_w (In_read e2 hx_57_30) (by decide) (by decide)
  refine r_gR g0.1 h_a0 rfl rfl (fun v9 h5 => ?_)
  refine r_bIs (w' := kw_M26) g0 h5 rfl (p := 85) rfl rfl (In_w q4 (by decide) (by decide) : In 0 59 v8) (by decide) (fun _ _ _ q => by cases q; exact (In_w h_a1 (by decide) (by decide))) (fun _ => rfl) (by decide) (by decide +kernel) (fun _ => by unfold phc; omega) (fun s6 g7 e8 => ?_)
  have f9 : In 0 59 (sI s6 57 30) := In_ne e8 (by omega) (In_cell e2 q4)
  have f10 : In 0 5 (sI s6 85 v8.toNatClampNeg) := In_eqw e8 (In_w h_a1 (by decide) (by decide))
  refine r_gR g7.1 h_a0 rfl rfl (fun v11 h11 => ?_)
  refine r_gIs g7.1 h_a0 rfl (p := 57) rfl (fun v12 b12 e13 => ?_)
  refine r_bIs (w' := kw_M27) g7 h11 rfl (p := 86) rfl rfl (In_w q4 (by decide) (by decide) : In 0 59 v8) (by decide) (fun _ _ _ q => by cases q) (fun _ => rfl) (by decide) (by decide +kernel) (fun _ => by unfold phc; omega) (fun s14 g15 e16 => ?_)
  have f17 : In 0 59 (sI s14 57 30) := In_ne e16 (by omega) f9
  have f18 : In 0 5 (sI s14 85 v8.toNatClampNeg) := In_ne e16 (by omega) f10
  refine r_gR g15.1 h_a0 rfl rfl (fun v14 h19 => ?_)
  refine r_gIs g15.1 h_a0 rfl (p := 57) rfl (fun v15 b20 e21 => ?_)
  refine r_bIs (w' := kw_M28) g15 h19 rfl (p := 87) rfl rfl (In_w q4 (by decide) (by decide) : In 0 59 v8) (by decide) (fun _ _ _ q => by cases q) (fun _ => rfl) (by decide) (by decide +kernel) (fun _ => by unfold phc; omega) (fun s22 g23 e24 => ?_)
  have f25 : In 0 59 (sI s22 57 30) := In_ne e24 (by omega) f17
  have f26 : In 0 5 (sI s22 85 v8.toNatClampNeg) := In_ne e24 (by omega) f18
  refine r_gR g23.1 h_a0 rfl rfl (fun v17 h27 => ?_)
  refine r_bIs (w' := kw_M29) g23 h27 rfl (p := 88) rfl rfl (In_w q4 (by decide) (by decide) : In 0 59 v8) (by decide) (fun _ _ _ q => by cases q; exact (In_w h_a2 (by decide) (by decide))) (fun _ => rfl) (by decide) (by decide +kernel) (fun _ => by unfold phc; omega) (fun s28 g29 e30 => ?_)
  have f31 : In 0 59 (sI s28 57 30) := In_ne e30 (by omega) f25
  have f32 : In 0 5 (sI s28 85 v8.toNatClampNeg) := In_ne e30 (by omega) f26
  have f33 : In (-1) 59 (sI s28 88 v8.toNatClampNeg) := In_eqw e30 (In_w h_a2 (by decide) (by decide))
  refine r_gR g29.1 h_a0 rfl rfl (fun v19 h34 => ?_)
  refine r_bZone (w' := kw_M30) (p := 89) g29 h34 (by decide) (In_w q4 (by decide) (by decide)) (by decide +kernel) (fun s37 g38 e39 => ?_)
  have f40 : In 0 59 (sI s37 57 30) := In_ne e39 (by omega) f31
  have f41 : In 0 5 (sI s37 85 v8.toNatClampNeg) := In_ne e39 (by omega) f32
  have f42 : In (-1) 59 (sI s37 88 v8.toNatClampNeg) := In_ne e39 (by omega) f33
  have C43 : sC s37 ≤ sC S + 0 := by rw [e39]; exact g29.2.2.2.1.1
  exact t_M_newSession_L49  (Int.le_trans hfph0 (by decide)) kr_FU s37 a0 v8 (0 : Int32) (Rlweak g38 (by decide +kernel) (by decide) (by decide)) h_a0 (In_w q4 (by decide) (by decide)) (In_w (by decide : In 0 0 (0 : Int32)) (by decide) (by decide)) C43 (In_w f40 (by decide) (by decide))  (by decide)
theorem t_M_grant_C45 {T : Nat → Nat} {S0 S : AS} (g : Rl T kw_M35 S0 0 0 T S) {x0 : Option Nat} {x1 : Int32} {x2 : Int32} {x3 : Int32} {k45 : AS → Option Nat → Int32 → Int32 → Int32 → Option AS} {n45 : Nat} (hk45 : ∀ (S' : AS) (z0 : Option Nat) (z1 : Int32) (z2 : Int32) (z3 : Int32), Rl T kw_M35 S0 0 0 T S' → Tx T 100 z0 → In 0 59 z1 → In 0 5 z2 → In 0 3 z3 → In 0 59 (sI S' 83 z1.toNatClampNeg) → (3 + 1 : Int) ≤ z3.toInt + (n45 : Int) → Ho (k45 S' z0 z1 z2 z3) (fun q => Rl T kw_M37 S0 0 0 T q)) (hm45 : (3 + 1 : Int) ≤ x3.toInt + ((n45 + 1 : Nat) : Int)) (h_x0 : Tx T 100 x0) (h_x1 : In 0 59 x1) (h_x2 : In 0 5 x2) (h_x3 : In 0 3 x3) (hx_83_x1 : In 0 59 (sI S 83 x1.toNatClampNeg)) (hfph0 : Ph S0 ≤ 1170) : Ho (f_M_grant_C45 k45 S x0 x1 x2 x3) (fun q => Rl T kw_M37 S0 0 0 T q) := by
  unfold f_M_grant_C45
  refine r_if (fun c1 => ?_) (fun c1 => ?_)
  · have q2 : In 3 3 x3 := In_w (In_le2 c1 (by decide : In 3 3 (3 : Int32)) h_x3) (by decide) (by decide)
    refine r_gR g.1 h_x0 rfl rfl (fun v1 h3 => ?_)
    refine r_gR g.1 h_x0 rfl rfl (fun v2 h4 => ?_)
    refine r_aIs g.1 h4 rfl (p := 76) rfl rfl (In_w h_x1 (by decide) (by decide) : In 0 59 x1) (by decide) (fun v3 b5 e6 => ?_)
    have q7 : In 0 5 v3 := b5 _ _ rfl
    refine r_bZs (w' := kw_M36) g h3 rfl (p := 62) rfl rfl (In_w (In_w (In_add (In_w (In_mulc (k := 6) h_x2 (by decide) (by decide) (by decide) (by decide)) (by decide) (by decide) : In 0 30 ((6 : Int32) * x2)) q7 (by decide) (by decide)) (by decide) (by decide) : In 0 35 (((6 : Int32) * x2) + v3)) (by decide) (by decide) : In 0 35 (((6 : Int32) * x2) + v3)) (by decide) (In_w (by decide : In 1 1 (1 : Int32)) (by decide) (by decide)) (fun _ _ _ q => by cases q; exact (In_w (by decide : In 1 1 (1 : Int32)) (by decide) (by decide))) (fun _ => rfl) (by decide) (by decide +kernel) (fun _ => by unfold phc; omega) (fun s8 g9 e10 => ?_)
    have f11 : In 0 59 (sI s8 83 x1.toNatClampNeg) := In_ne e10 (by omega) hx_83_x1
    have f12 : In 1 1 (sI s8 62 (((6 : Int32) * x2) + v3).toNatClampNeg) := In_eqw e10 (In_w (by decide : In 1 1 (1 : Int32)) (by decide) (by decide))
    refine r_gR g9.1 h_x0 rfl rfl (fun v5 h13 => ?_)
    refine r_gR g9.1 h_x0 rfl rfl (fun v6 h14 => ?_)
    refine r_aIs g9.1 h14 rfl (p := 77) rfl rfl (In_w h_x1 (by decide) (by decide) : In 0 59 x1) (by decide) (fun v7 b15 e16 => ?_)
    have q17 : In 0 5 v7 := b15 _ _ rfl
    refine r_bZs (w' := kw_M37) g9 h13 rfl (p := 63) rfl rfl (In_w (In_w (In_add (In_w (In_mulc (k := 6) h_x2 (by decide) (by decide) (by decide) (by decide)) (by decide) (by decide) : In 0 30 ((6 : Int32) * x2)) q17 (by decide) (by decide)) (by decide) (by decide) : In 0 35 (((6 : Int32) * x2) + v7)) (by decide) (by decide) : In 0 35 (((6 : Int32) * x2) + v7)) (by decide) (In_w (by decide : In 1 1 (1 : Int32)) (by decide) (by decide)) (fun _ _ _ q => by cases q; exact (In_w (by decide : In 1 1 (1 : Int32)) (by decide) (by decide))) (fun _ => rfl) (by decide) (by decide +kernel) (fun _ => by unfold phc; omega) (fun s18 g19 e20 => ?_)
    have f21 : In 0 59 (sI s18 83 x1.toNatClampNeg) := In_ne e20 (by omega) f11
    have f22 : In 1 1 (sI s18 62 (((6 : Int32) * x2) + v3).toNatClampNeg) := In_ne e20 (by omega) f12
    have f23 : In 1 1 (sI s18 63 (((6 : Int32) * x2) + v7).toNatClampNeg) := In_eqw e20 (In_w (by decide : In 1 1 (1 : Int32)) (by decide) (by decide))
    exact r_some (Rlweak g19 (by decide +kernel) (by decide) (by decide))
  · have q24 : In 0 2 x3 := In_w (In_lt1 (Int32.not_le.mp c1) h_x3 (by decide : In 3 3 (3 : Int32))) (by decide) (by decide)
    refine r_gR g.1 h_x0 rfl rfl (fun v9 h25 => ?_)
    refine r_gR g.1 h_x0 rfl rfl (fun v10 h26 => ?_)
    refine r_aIs g.1 h26 rfl (p := 83) rfl rfl (In_w h_x1 (by decide) (by decide) : In 0 59 x1) (by decide) (fun v11 b27 e28 => ?_)
    have q29 : In (-1) 59 v11 := b27 _ _ rfl
    have q30 : In 0 59 v11 := In_w (In_read e28 hx_83_x1) (by decide) (by decide)
    refine r_gR g.1 h_x0 rfl rfl (fun v12 h31 => ?_)
    refine r_aIs g.1 h31 rfl (p := 84) rfl rfl (In_w (In_w (In_add (In_w (In_mulc (k := 3) h_x1 (by decide) (by decide) (by decide) (by decide)) (by decide) (by decide) : In 0 177 ((3 : Int32) * x1)) q24 (by decide) (by decide)) (by decide) (by decide) : In 0 179 (((3 : Int32) * x1) + x3)) (by decide) (by decide) : In 0 179 (((3 : Int32) * x1) + x3)) (by decide) (fun v13 b32 e33 => ?_)
    refine r_bIs (w' := kw_M35) g h25 rfl (p := 90) rfl rfl (In_w (In_w (In_add (In_w (In_mulc (k := 3) q30 (by decide) (by decide) (by decide) (by decide)) (by decide) (by decide) : In 0 177 ((3 : Int32) * v11)) q24 (by decide) (by decide)) (by decide) (by decide) : In 0 179 (((3 : Int32) * v11) + x3)) (by decide) (by decide) : In 0 179 (((3 : Int32) * v11) + x3)) (by decide) (fun _ _ _ q => by cases q) (fun _ => rfl) (by decide) (by decide +kernel) (fun _ => by unfold phc; omega) (fun s34 g35 e36 => ?_)
    have f37 : In 0 59 (sI s34 83 x1.toNatClampNeg) := In_ne e36 (by omega) (In_cell e28 q30)
    refine r_val ?_
    generalize ei15 : (x3 + (1 : Int32)) = i15
    have qi15 : In 1 3 i15 := by rw [← ei15]; exact (In_w (In_add q24 (by decide : In 1 1 (1 : Int32)) (by decide) (by decide)) (by decide) (by decide) : In 1 3 (x3 + (1 : Int32)))
    exact hk45 s34 x0 x1 x2 i15 (Rlweak g35 (by decide +kernel) (by decide) (by decide)) h_x0 (In_w h_x1 (by decide) (by decide)) (In_w h_x2 (by decide) (by decide)) (In_w qi15 (by decide) (by decide)) (In_w f37 (by decide) (by decide))  (by rw [← ei15, toInt_add1 q24 (by decide) (by decide)]; omega)
theorem t_M_grant_L45 {T : Nat → Nat} {S0 : AS} (hfph0 : Ph S0 ≤ 1170) : ∀ (n : Nat) (S : AS) (x0 : Option Nat) (x1 : Int32) (x2 : Int32) (x3 : Int32), Rl T kw_M35 S0 0 0 T S → Tx T 100 x0 → In 0 59 x1 → In 0 5 x2 → In 0 3 x3 → In 0 59 (sI S 83 x1.toNatClampNeg) → (3 + 1 : Int) ≤ x3.toInt + (n : Int) → Ho (f_M_grant_L45  n S x0 x1 x2 x3) (fun q => Rl T kw_M37 S0 0 0 T q) := by
  intro n
  induction n with
  | zero =>
    intro S x0 x1 x2 x3 g h_x0 h_x1 h_x2 h_x3 hx_83_x1 hm
    exact absurd hm (by have := h_x3.2; omega)
  | succ n ih =>
    intro S x0 x1 x2 x3 g h_x0 h_x1 h_x2 h_x3 hx_83_x1 hm
    exact t_M_grant_C45 g  (fun S' z0 z1 z2 z3 g' a_h_x0 a_h_x1 a_h_x2 a_h_x3 a_hx_83_x1 am => ih S' z0 z1 z2 z3 g' a_h_x0 a_h_x1 a_h_x2 a_h_x3 a_hx_83_x1 am) hm h_x0 h_x1 h_x2 h_x3 hx_83_x1 hfph0
theorem t_M_grant {T : Nat → Nat} {S : AS} (hT : TI T S) {a0 : Option Nat} {a1 : Int32} (h_a0 : Tx T 100 a0) (h_a1 : In 0 59 a1) (hfph0 : Ph S ≤ 1170) : Ho (f_M_grant  S a0 a1) (fun q => Rl T kw_M37 S 0 0 T q) := by
  have g0 := Rlrf hT
  unfold f_M_grant
  refine r_gIs g0.1 h_a0 rfl (p := 57) rfl (fun v16 b1 e2 => ?_)
  have q3 : In 0 60 v16 := b1 _ _ rfl
  refine r_if (fun c4 => ?_) (fun c4 => ?_)
  · have q5 : In 60 60 v16 := In_w (In_eq c4 (by decide : In 60 60 (60 : Int32))) (by decide) (by decide)
    refine r_gR g0.1 h_a0 rfl rfl (fun v17 h6 => ?_)
    refine r_bIs (w' := kw_M33) g0 h6 rfl (p := 80) rfl rfl (In_w h_a1 (by decide) (by decide) : In 0 59 a1) (by decide) (fun _ _ _ q => by cases q; exact (In_w (by decide : In 2 2 (2 : Int32)) (by decide) (by decide))) (fun _ => rfl) (by decide) (by decide +kernel) (fun _ => by unfold phc; omega) (fun s7 g8 e9 => ?_)
    have f10 : In 60 60 (sI s7 57 30) := In_ne e9 (by omega) (In_cell e2 q5)
    have f11 : In 2 2 (sI s7 80 a1.toNatClampNeg) := In_eqw e9 (In_w (by decide : In 2 2 (2 : Int32)) (by decide) (by decide))
    exact r_some (Rlweak g8 (by decide +kernel) (by decide) (by decide))
  · have q12 : In 0 59 v16 := In_w (In_neR c4 q3 (by decide)) (by decide) (by decide)
    refine r_gR g0.1 h_a0 rfl rfl (fun v19 h13 => ?_)
    refine r_aIs g0.1 h13 rfl (p := 75) rfl rfl (In_w h_a1 (by decide) (by decide) : In 0 59 a1) (by decide) (fun v20 b14 e15 => ?_)
    have q16 : In 0 5 v20 := b14 _ _ rfl
    refine r_gR g0.1 h_a0 rfl rfl (fun v21 h17 => ?_)
    refine r_bIs (w' := kw_M33) g0 h17 rfl (p := 80) rfl rfl (In_w h_a1 (by decide) (by decide) : In 0 59 a1) (by decide) (fun _ _ _ q => by cases q; exact (In_w (by decide : In 1 1 (1 : Int32)) (by decide) (by decide))) (fun _ => rfl) (by decide) (by decide +kernel) (fun _ => by unfold phc; omega) (fun s18 g19 e20 => ?_)
    have f21 : In 0 59 (sI s18 57 30) := In_ne e20 (by omega) (In_cell e2 q12)
    have f22 : In 1 1 (sI s18 80 a1.toNatClampNeg) := In_eqw e20 (In_w (by decide : In 1 1 (1 : Int32)) (by decide) (by decide))
    refine r_gR g19.1 h_a0 rfl rfl (fun v23 h23 => ?_)
    refine r_rv g19.1 h_a0 rfl ?_
    refine r_b2 (t_M_newSession g19.1 h_a0 (In_w q16 (by decide) (by decide)) (In_w (by decide : In (-1) (-1) (-1 : Int32)) (by decide) (by decide)) (In_w f21 (by decide) (by decide)) (phS hfph0 g19 (by decide))) (fun v26 s25 h24 => ?_)
    obtain ⟨g26, h24r⟩ := h24
    have g27 : Rl T kw_M34 S 0 0 T s25 := Rltrans g19 g26 (by decide +kernel)
    have f28 : In 1 1 (sI s25 80 a1.toNatClampNeg) := In_fr g26 h_a0 (j := 25) rfl rfl (by decide) (by decide +kernel) f22
    refine r_bIs (w' := kw_M35) g27 h23 rfl (p := 83) rfl rfl (In_w h_a1 (by decide) (by decide) : In 0 59 a1) (by decide) (fun _ _ _ q => by cases q; exact (In_w h24r (by decide) (by decide))) (fun _ => rfl) (by decide) (by decide +kernel) (fun _ => by unfold phc; omega) (fun s29 g30 e31 => ?_)
    have f32 : In 1 1 (sI s29 80 a1.toNatClampNeg) := In_ne e31 (by omega) f28
    have f33 : In 0 59 (sI s29 83 a1.toNatClampNeg) := In_eqw e31 (In_w h24r (by decide) (by decide))
    exact t_M_grant_L45  (Int.le_trans hfph0 (by decide)) kr_FU s29 a0 a1 v20 (0 : Int32) (Rlweak g30 (by decide +kernel) (by decide) (by decide)) h_a0 (In_w h_a1 (by decide) (by decide)) (In_w q16 (by decide) (by decide)) (In_w (by decide : In 0 0 (0 : Int32)) (by decide) (by decide)) (In_w f33 (by decide) (by decide))  (by decide)
theorem t_M_suspend {T : Nat → Nat} {S : AS} (hT : TI T S) {a0 : Option Nat} {a1 : Int32} {a2 : Int32} (h_a0 : Tx T 100 a0) (h_a1 : In 0 5 a1) (h_a2 : In 0 2 a2) (hfph0 : Ph S ≤ 1190) : Ho (f_M_suspend  S a0 a1 a2) (fun q => Rl T kw_M38 S 1 0 T q) := by
  have g0 := Rlrf hT
  unfold f_M_suspend
  refine r_gR g0.1 h_a0 rfl rfl (fun v1 h1 => ?_)
  refine r_bIs (w' := kw_M10) g0 h1 rfl (p := 58) rfl rfl (In_w (In_w (In_add (In_w (In_mulc (k := 3) h_a1 (by decide) (by decide) (by decide) (by decide)) (by decide) (by decide) : In 0 15 ((3 : Int32) * a1)) h_a2 (by decide) (by decide)) (by decide) (by decide) : In 0 17 (((3 : Int32) * a1) + a2)) (by decide) (by decide) : In 0 17 (((3 : Int32) * a1) + a2)) (by decide) (fun _ _ _ q => by cases q; exact (In_w (by decide : In 2 2 (2 : Int32)) (by decide) (by decide))) (fun _ => rfl) (by decide) (by decide +kernel) (fun _ => by unfold phc; omega) (fun s2 g3 e4 => ?_)
  have f5 : In 2 2 (sI s2 58 (((3 : Int32) * a1) + a2).toNatClampNeg) := In_eqw e4 (In_w (by decide : In 2 2 (2 : Int32)) (by decide) (by decide))
  refine r_rv g3.1 h_a0 rfl ?_
  refine r_bind (t_M_write g3.1 h_a0 (phS hfph0 g3 (by decide))) (fun s6 h7 => ?_)
  obtain ⟨g8, -⟩ := h7
  have g9 : Rl T kw_M38 S 1 0 T s6 := Rltrans g3 g8 (by decide +kernel)
  have f10 : In 2 2 (sI s6 58 (((3 : Int32) * a1) + a2).toNatClampNeg) := In_fr g8 h_a0 (j := 1) rfl rfl (by decide) (by decide +kernel) f5
  exact r_some (Rlweak g9 (by decide +kernel) (by decide) (by decide))
theorem t_M_answers_B118 {T : Nat → Nat} {S0 S : AS} (g : Rl T kw_M42 S0 1 0 T S) {x0 : Option Nat} {x1 : Int32} (h_x0 : Tx T 100 x0) (h_x1 : In 0 5 x1) (hfph0 : Ph S0 ≤ 1180) : Ho (f_M_answers_B118  S x0 x1) (fun q => Rl T kw_M44 S0 1 0 T q.2 ∧ In 0 1 q.1) := by
  unfold f_M_answers_B118
  refine r_gR g.1 h_x0 rfl rfl (fun v1 h1 => ?_)
  refine r_gR g.1 h_x0 rfl rfl (fun v2 h2 => ?_)
  refine r_aIs g.1 h2 rfl (p := 61) rfl rfl (In_w (In_w (In_add (In_w (In_mulc (k := 3) h_x1 (by decide) (by decide) (by decide) (by decide)) (by decide) (by decide) : In 0 15 ((3 : Int32) * x1)) (by decide : In 1 1 (1 : Int32)) (by decide) (by decide)) (by decide) (by decide) : In 1 16 (((3 : Int32) * x1) + (1 : Int32))) (by decide) (by decide) : In 0 16 (((3 : Int32) * x1) + (1 : Int32))) (by decide) (fun v3 b3 e4 => ?_)
  refine r_bIs (w' := kw_M43) g h1 rfl (p := 61) rfl rfl (In_w (In_w (In_mulc (k := 3) h_x1 (by decide) (by decide) (by decide) (by decide)) (by decide) (by decide) : In 0 15 ((3 : Int32) * x1)) (by decide) (by decide) : In 0 15 ((3 : Int32) * x1)) (by decide) (fun _ _ _ q => by cases q) (fun _ => rfl) (by decide) (by decide +kernel) (fun _ => by unfold phc; omega) (fun s5 g6 e7 => ?_)
  refine r_gR g6.1 h_x0 rfl rfl (fun v5 h8 => ?_)
  refine r_gR g6.1 h_x0 rfl rfl (fun v6 h9 => ?_)
  refine r_aIs g6.1 h9 rfl (p := 61) rfl rfl (In_w (In_w (In_add (In_w (In_mulc (k := 3) h_x1 (by decide) (by decide) (by decide) (by decide)) (by decide) (by decide) : In 0 15 ((3 : Int32) * x1)) (by decide : In 2 2 (2 : Int32)) (by decide) (by decide)) (by decide) (by decide) : In 2 17 (((3 : Int32) * x1) + (2 : Int32))) (by decide) (by decide) : In 0 17 (((3 : Int32) * x1) + (2 : Int32))) (by decide) (fun v7 b10 e11 => ?_)
  refine r_bIs (w' := kw_M43) g6 h8 rfl (p := 61) rfl rfl (In_w (In_w (In_add (In_w (In_mulc (k := 3) h_x1 (by decide) (by decide) (by decide) (by decide)) (by decide) (by decide) : In 0 15 ((3 : Int32) * x1)) (by decide : In 1 1 (1 : Int32)) (by decide) (by decide)) (by decide) (by decide) : In 1 16 (((3 : Int32) * x1) + (1 : Int32))) (by decide) (by decide) : In 0 16 (((3 : Int32) * x1) + (1 : Int32))) (by decide) (fun _ _ _ q => by cases q) (fun _ => rfl) (by decide) (by decide +kernel) (fun _ => by unfold phc; omega) (fun s12 g13 e14 => ?_)
  refine r_gR g13.1 h_x0 rfl rfl (fun v9 h15 => ?_)
  refine r_gIs g13.1 h_x0 rfl (p := 57) rfl (fun v10 b16 e17 => ?_)
  refine r_bIs (w' := kw_M43) g13 h15 rfl (p := 61) rfl rfl (In_w (In_w (In_add (In_w (In_mulc (k := 3) h_x1 (by decide) (by decide) (by decide) (by decide)) (by decide) (by decide) : In 0 15 ((3 : Int32) * x1)) (by decide : In 2 2 (2 : Int32)) (by decide) (by decide)) (by decide) (by decide) : In 2 17 (((3 : Int32) * x1) + (2 : Int32))) (by decide) (by decide) : In 0 17 (((3 : Int32) * x1) + (2 : Int32))) (by decide) (fun _ _ _ q => by cases q) (fun _ => rfl) (by decide) (by decide +kernel) (fun _ => by unfold phc; omega) (fun s18 g19 e20 => ?_)
  exact r_some ⟨(Rlweak g19 (by decide +kernel) (by decide) (by decide)), (In_w (by decide : In 0 0 (0 : Int32)) (by decide) (by decide))⟩
theorem t_M_answers_B112 {T : Nat → Nat} {S0 S : AS} (g : Rl T kw_M40 S0 0 0 T S) {x0 : Option Nat} {x1 : Int32} {x2 : Int32} (h_x0 : Tx T 100 x0) (h_x1 : In 0 5 x1) (h_x2 : In 0 2 x2) (hfph0 : Ph S0 ≤ 1180) : Ho (f_M_answers_B112  S x0 x1 x2) (fun q => Rl T kw_M44 S0 1 0 T q.2 ∧ In 0 1 q.1) := by
  unfold f_M_answers_B112
  refine r_rv g.1 h_x0 rfl ?_
  refine r_bind (t_M_suspend g.1 h_x0 (In_w h_x1 (by decide) (by decide)) (In_w h_x2 (by decide) (by decide)) (phS hfph0 g (by decide))) (fun s1 h2 => ?_)
  have g3 : Rl T kw_M42 S0 1 0 T s1 := Rltrans g h2 (by decide +kernel)
  exact t_M_answers_B118 (Rlweak g3 (by decide +kernel) (by decide) (by decide))  h_x0 (In_w h_x1 (by decide) (by decide)) (Int.le_trans hfph0 (by decide))
theorem t_M_answers_B94_4c1_5t102_8c1 {T : Nat → Nat} {S0 S : AS} (g : Rl T [] S0 0 0 T S) {x0 : Option Nat} {x1 : Int32} {x2 : Int32} {x5 : Int32} {y0 : Option Nat} {y1 : Int32} {y2 : Int32} (h_x0 : Tx T 100 x0) (h_x1 : In 0 5 x1) (h_x2 : In 2 2 x2) (h_x5 : In 0 17 x5) (h_y0 : Tx T 102 y0) (h_y1 : In 0 17 y1) (hfph0 : Ph S0 ≤ 1180) : Ho (f_M_answers_B94  S x0 x1 x2 x5 (1 : Int32) y0 y1 y2 (1 : Int32)) (fun q => Rl T kw_M44 S0 1 0 T q.2 ∧ In 0 1 q.1) := by
  unfold f_M_answers_B94
  refine r_bIs (w' := kw_M40) g h_y0 rfl (p := 59) rfl rfl (In_w h_y1 (by decide) (by decide) : In 0 17 y1) (by decide) (fun _ _ _ q => by cases q) (fun _ => rfl) (by decide) (by decide +kernel) (fun _ => by unfold phc; omega) (fun s1 g2 e3 => ?_)
  refine r_ifF (by decide) ?_
  exact t_M_answers_B112 (Rlweak g2 (by decide +kernel) (by decide) (by decide))  h_x0 (In_w h_x1 (by decide) (by decide)) (In_w h_x2 (by decide) (by decide)) (Int.le_trans hfph0 (by decide))
theorem t_M_answers_B94_4c1_5t102_8c0 {T : Nat → Nat} {S0 S : AS} (g : Rl T [] S0 0 0 T S) {x0 : Option Nat} {x1 : Int32} {x2 : Int32} {x5 : Int32} {y0 : Option Nat} {y1 : Int32} {y2 : Int32} (h_x0 : Tx T 100 x0) (h_x1 : In 0 5 x1) (h_x2 : In 2 2 x2) (h_x5 : In 0 17 x5) (h_y0 : Tx T 102 y0) (h_y1 : In 0 17 y1) (hfph0 : Ph S0 ≤ 1180) : Ho (f_M_answers_B94  S x0 x1 x2 x5 (1 : Int32) y0 y1 y2 (0 : Int32)) (fun q => Rl T kw_M44 S0 1 0 T q.2 ∧ In 0 1 q.1) := by
  unfold f_M_answers_B94
  refine r_bIs (w' := kw_M40) g h_y0 rfl (p := 59) rfl rfl (In_w h_y1 (by decide) (by decide) : In 0 17 y1) (by decide) (fun _ _ _ q => by cases q) (fun _ => rfl) (by decide) (by decide +kernel) (fun _ => by unfold phc; omega) (fun s1 g2 e3 => ?_)
  refine r_ifF (by decide) ?_
  exact t_M_answers_B112 (Rlweak g2 (by decide +kernel) (by decide) (by decide))  h_x0 (In_w h_x1 (by decide) (by decide)) (In_w h_x2 (by decide) (by decide)) (Int.le_trans hfph0 (by decide))
theorem t_M_answers_B94_4c0_5t102_8c1 {T : Nat → Nat} {S0 S : AS} (g : Rl T [] S0 0 0 T S) {x0 : Option Nat} {x1 : Int32} {x2 : Int32} {x5 : Int32} {y0 : Option Nat} {y1 : Int32} {y2 : Int32} (h_x0 : Tx T 100 x0) (h_x1 : In 0 5 x1) (h_x2 : In 0 2 x2) (h_x5 : In 0 17 x5) (h_y0 : Tx T 102 y0) (h_y1 : In 0 17 y1) (hfph0 : Ph S0 ≤ 1180) : Ho (f_M_answers_B94  S x0 x1 x2 x5 (0 : Int32) y0 y1 y2 (1 : Int32)) (fun q => Rl T kw_M44 S0 1 0 T q.2 ∧ In 0 1 q.1) := by
  unfold f_M_answers_B94
  refine r_bIs (w' := kw_M40) g h_y0 rfl (p := 59) rfl rfl (In_w h_y1 (by decide) (by decide) : In 0 17 y1) (by decide) (fun _ _ _ q => by cases q) (fun _ => rfl) (by decide) (by decide +kernel) (fun _ => by unfold phc; omega) (fun s1 g2 e3 => ?_)
  refine r_ifT (by decide) ?_
  refine r_gR g2.1 h_x0 rfl rfl (fun v15 h4 => ?_)
  refine r_aIs g2.1 h4 rfl (p := 59) rfl rfl (In_w h_x5 (by decide) (by decide) : In 0 17 x5) (by decide) (fun v16 b5 e6 => ?_)
  refine r_if (fun c7 => ?_) (fun c7 => ?_)
  · have q8 : In 5 5 v16 := In_w (In_eq c7 (by decide : In 5 5 (5 : Int32))) (by decide) (by decide)
    exact t_M_answers_B112 (Rlweak g2 (by decide +kernel) (by decide) (by decide))  h_x0 (In_w h_x1 (by decide) (by decide)) (In_w h_x2 (by decide) (by decide)) (Int.le_trans hfph0 (by decide))
  · exact t_M_answers_B118 (Rlweak g2 (by decide +kernel) (by decide) (by decide))  h_x0 (In_w h_x1 (by decide) (by decide)) (Int.le_trans hfph0 (by decide))
theorem t_M_answers_B77_5c1 {T : Nat → Nat} {S0 S : AS} (g : Rl T [] S0 0 0 T S) {x0 : Option Nat} {x1 : Int32} {x2 : Int32} {x3 : Int32} {x5 : Int32} (h_x0 : Tx T 100 x0) (h_x1 : In 0 5 x1) (h_x2 : In 2 2 x2) (h_x5 : In 0 17 x5) (hfph0 : Ph S0 ≤ 1180) : Ho (f_M_answers_B77  S x0 x1 x2 x3 x5 (1 : Int32)) (fun q => Rl T kw_M44 S0 1 0 T q.2 ∧ In 0 1 q.1) := by
  unfold f_M_answers_B77
  refine r_gR g.1 h_x0 rfl rfl (fun v17 h1 => ?_)
  refine r_aIs g.1 h1 rfl (p := 59) rfl rfl (In_w h_x5 (by decide) (by decide) : In 0 17 x5) (by decide) (fun v18 b2 e3 => ?_)
  refine r_if (fun c4 => ?_) (fun c4 => ?_)
  · have q5 : In 0 0 x3 := In_w (In_eq c4 (by decide : In 0 0 (0 : Int32))) (by decide) (by decide)
    exact t_M_answers_B94_4c1_5t102_8c1 (Rlweak g (by decide +kernel) (by decide) (by decide))  h_x0 (In_w h_x1 (by decide) (by decide)) (In_w h_x2 (by decide) (by decide)) (In_w h_x5 (by decide) (by decide)) h1 (In_w h_x5 (by decide) (by decide)) (Int.le_trans hfph0 (by decide))
  · exact t_M_answers_B94_4c1_5t102_8c0 (Rlweak g (by decide +kernel) (by decide) (by decide))  h_x0 (In_w h_x1 (by decide) (by decide)) (In_w h_x2 (by decide) (by decide)) (In_w h_x5 (by decide) (by decide)) h1 (In_w h_x5 (by decide) (by decide)) (Int.le_trans hfph0 (by decide))
theorem t_M_answers_B77_5c0 {T : Nat → Nat} {S0 S : AS} (g : Rl T [] S0 0 0 T S) {x0 : Option Nat} {x1 : Int32} {x2 : Int32} {x3 : Int32} {x5 : Int32} (h_x0 : Tx T 100 x0) (h_x1 : In 0 5 x1) (h_x2 : In 0 2 x2) (h_x3 : In 0 0 x3) (h_x5 : In 0 17 x5) (hfph0 : Ph S0 ≤ 1180) : Ho (f_M_answers_B77  S x0 x1 x2 x3 x5 (0 : Int32)) (fun q => Rl T kw_M44 S0 1 0 T q.2 ∧ In 0 1 q.1) := by
  unfold f_M_answers_B77
  refine r_gR g.1 h_x0 rfl rfl (fun v17 h1 => ?_)
  refine r_aIs g.1 h1 rfl (p := 59) rfl rfl (In_w h_x5 (by decide) (by decide) : In 0 17 x5) (by decide) (fun v18 b2 e3 => ?_)
  refine r_if (fun c4 => ?_) (fun c4 => ?_)
  · exact t_M_answers_B94_4c0_5t102_8c1 (Rlweak g (by decide +kernel) (by decide) (by decide))  h_x0 (In_w h_x1 (by decide) (by decide)) (In_w h_x2 (by decide) (by decide)) (In_w h_x5 (by decide) (by decide)) h1 (In_w h_x5 (by decide) (by decide)) (Int.le_trans hfph0 (by decide))
  · have q5 : In 1 0 x3 := In_w (In_neL c4 h_x3 (by decide)) (by decide) (by decide)
    exact absurd q5.1 (by have := q5.2; omega)
theorem t_M_answers_B43_6c1 {T : Nat → Nat} {S0 S : AS} (g : Rl T [] S0 0 0 T S) {x0 : Option Nat} {x1 : Int32} {x2 : Int32} {x3 : Int32} {x4 : Int32} {x5 : Int32} (h_x0 : Tx T 100 x0) (h_x1 : In 0 5 x1) (h_x2 : In 2 2 x2) (h_x5 : In 0 17 x5) (hfph0 : Ph S0 ≤ 1180) : Ho (f_M_answers_B43  S x0 x1 x2 x3 x4 x5 (1 : Int32)) (fun q => Rl T kw_M44 S0 1 0 T q.2 ∧ In 0 1 q.1) := by
  unfold f_M_answers_B43
  refine r_if (fun c1 => ?_) (fun c1 => ?_)
  · have q2 : In 0 0 x3 := In_w (In_eq c1 (by decide : In 0 0 (0 : Int32))) (by decide) (by decide)
    exact t_M_answers_B77_5c1 (Rlweak g (by decide +kernel) (by decide) (by decide))  h_x0 (In_w h_x1 (by decide) (by decide)) (In_w h_x2 (by decide) (by decide)) (In_w h_x5 (by decide) (by decide)) (Int.le_trans hfph0 (by decide))
  · refine r_ifF (by decide) ?_
    exact t_M_answers_B77_5c1 (Rlweak g (by decide +kernel) (by decide) (by decide))  h_x0 (In_w h_x1 (by decide) (by decide)) (In_w h_x2 (by decide) (by decide)) (In_w h_x5 (by decide) (by decide)) (Int.le_trans hfph0 (by decide))
theorem t_M_answers_B43_6c0 {T : Nat → Nat} {S0 S : AS} (g : Rl T [] S0 0 0 T S) {x0 : Option Nat} {x1 : Int32} {x2 : Int32} {x3 : Int32} {x4 : Int32} {x5 : Int32} (h_x0 : Tx T 100 x0) (h_x1 : In 0 5 x1) (h_x2 : In 0 2 x2) (h_x5 : In 0 17 x5) (hfph0 : Ph S0 ≤ 1180) : Ho (f_M_answers_B43  S x0 x1 x2 x3 x4 x5 (0 : Int32)) (fun q => Rl T kw_M44 S0 1 0 T q.2 ∧ In 0 1 q.1) := by
  unfold f_M_answers_B43
  refine r_if (fun c1 => ?_) (fun c1 => ?_)
  · have q2 : In 0 0 x3 := In_w (In_eq c1 (by decide : In 0 0 (0 : Int32))) (by decide) (by decide)
    exact t_M_answers_B77_5c0 (Rlweak g (by decide +kernel) (by decide) (by decide))  h_x0 (In_w h_x1 (by decide) (by decide)) (In_w h_x2 (by decide) (by decide)) (In_w q2 (by decide) (by decide)) (In_w h_x5 (by decide) (by decide)) (Int.le_trans hfph0 (by decide))
  · refine r_ifT (by decide) ?_
    refine r_gR g.1 h_x0 rfl rfl (fun v19 h3 => ?_)
    refine r_bIs (w' := kw_M40) g h3 rfl (p := 59) rfl rfl (In_w h_x5 (by decide) (by decide) : In 0 17 x5) (by decide) (fun _ _ _ q => by cases q) (fun _ => rfl) (by decide) (by decide +kernel) (fun _ => by unfold phc; omega) (fun s4 g5 e6 => ?_)
    have f7 : In 0 0 (sI s4 59 x5.toNatClampNeg) := In_eqw e6 (In_w (by decide : In 0 0 (0 : Int32)) (by decide) (by decide))
    refine r_if (fun c8 => ?_) (fun c8 => ?_)
    · have q9 : In 2 2 x2 := In_w (In_eq c8 (by decide : In 2 2 (2 : Int32))) (by decide) (by decide)
      refine r_gR g5.1 h_x0 rfl rfl (fun v21 h10 => ?_)
      refine r_bIs (w' := kw_M41) g5 h10 rfl (p := 60) rfl rfl (In_w h_x1 (by decide) (by decide) : In 0 5 x1) (by decide) (fun _ _ _ q => by cases q) (fun _ => rfl) (by decide) (by decide +kernel) (fun _ => by unfold phc; omega) (fun s11 g12 e13 => ?_)
      have f14 : In 0 0 (sI s11 59 x5.toNatClampNeg) := In_ne e13 (by omega) f7
      exact r_some ⟨(Rlweak g12 (by decide +kernel) (by decide) (by decide)), (In_w (by decide : In 1 1 (1 : Int32)) (by decide) (by decide))⟩
    · have q15 : In 0 1 x2 := In_w (In_neR c8 h_x2 (by decide)) (by decide) (by decide)
      exact r_some ⟨(Rlweak g5 (by decide +kernel) (by decide) (by decide)), (In_w (by decide : In 1 1 (1 : Int32)) (by decide) (by decide))⟩
theorem t_M_answers_B42 {T : Nat → Nat} {S0 S : AS} (g : Rl T [] S0 0 0 T S) {x0 : Option Nat} {x1 : Int32} {x2 : Int32} {x3 : Int32} {x4 : Int32} {x5 : Int32} (h_x0 : Tx T 100 x0) (h_x1 : In 0 5 x1) (h_x2 : In 0 2 x2) (h_x5 : In 0 17 x5) (hfph0 : Ph S0 ≤ 1180) : Ho (f_M_answers_B42  S x0 x1 x2 x3 x4 x5) (fun q => Rl T kw_M44 S0 1 0 T q.2 ∧ In 0 1 q.1) := by
  unfold f_M_answers_B42
  exact t_M_answers_B43_6c0 (Rlweak g (by decide +kernel) (by decide) (by decide))  h_x0 (In_w h_x1 (by decide) (by decide)) (In_w h_x2 (by decide) (by decide)) (In_w h_x5 (by decide) (by decide)) (Int.le_trans hfph0 (by decide))
theorem t_M_answers {T : Nat → Nat} {S : AS} (hT : TI T S) {a0 : Option Nat} {a1 : Int32} {a2 : Int32} {a3 : Int32} {a4 : Int32} (h_a0 : Tx T 100 a0) (h_a1 : In 0 5 a1) (h_a2 : In 0 2 a2) (hfph0 : Ph S ≤ 1180) : Ho (f_M_answers  S a0 a1 a2 a3 a4) (fun q => Rl T kw_M44 S 1 0 T q.2 ∧ In 0 1 q.1) := by
  have g0 := Rlrf hT
  unfold f_M_answers
  refine r_val ?_
  generalize ei23 : (((3 : Int32) * a1) + a2) = i23
  have qi23 : In 0 17 i23 := by rw [← ei23]; exact (In_w (In_add (In_w (In_mulc (k := 3) h_a1 (by decide) (by decide) (by decide) (by decide)) (by decide) (by decide) : In 0 15 ((3 : Int32) * a1)) h_a2 (by decide) (by decide)) (by decide) (by decide) : In 0 17 (((3 : Int32) * a1) + a2))
  refine r_gR g0.1 h_a0 rfl rfl (fun v24 h1 => ?_)
  refine r_aIs g0.1 h1 rfl (p := 58) rfl rfl (In_w qi23 (by decide) (by decide) : In 0 17 i23) (by decide) (fun v25 b2 e3 => ?_)
  have q4 : In 0 2 v25 := b2 _ _ rfl
  refine r_if (fun c5 => ?_) (fun c5 => ?_)
  · have q6 : In 1 1 v25 := In_w (In_eq c5 (by decide : In 1 1 (1 : Int32))) (by decide) (by decide)
    refine r_if (fun c7 => ?_) (fun c7 => ?_)
    · have q8 : In 2 2 a2 := In_w (In_eq c7 (by decide : In 2 2 (2 : Int32))) (by decide) (by decide)
      refine r_if (fun c9 => ?_) (fun c9 => ?_)
      · have q10 : In 0 0 a3 := In_w (In_eq c9 (by decide : In 0 0 (0 : Int32))) (by decide) (by decide)
        exact t_M_answers_B42 (Rlweak g0 (by decide +kernel) (by decide) (by decide))  h_a0 (In_w h_a1 (by decide) (by decide)) (In_w q8 (by decide) (by decide)) (In_w qi23 (by decide) (by decide)) (Int.le_trans hfph0 (by decide))
      · refine r_gR g0.1 h_a0 rfl rfl (fun v26 h11 => ?_)
        refine r_aIs g0.1 h11 rfl (p := 60) rfl rfl (In_w h_a1 (by decide) (by decide) : In 0 5 a1) (by decide) (fun v27 b12 e13 => ?_)
        refine r_if (fun c14 => ?_) (fun c14 => ?_)
        · have q15 : In (-2147483648) 2147483646 v27 := In_w (In_lt1 c14 (In_top v27) (In_top a4)) (by decide) (by decide)
          have q16 : In (-2147483647) 2147483647 a4 := In_w (In_lt2 c14 (In_top v27) (In_top a4)) (by decide) (by decide)
          exact t_M_answers_B42 (Rlweak g0 (by decide +kernel) (by decide) (by decide))  h_a0 (In_w h_a1 (by decide) (by decide)) (In_w q8 (by decide) (by decide)) (In_w qi23 (by decide) (by decide)) (Int.le_trans hfph0 (by decide))
        · exact t_M_answers_B43_6c1 (Rlweak g0 (by decide +kernel) (by decide) (by decide))  h_a0 (In_w h_a1 (by decide) (by decide)) (In_w q8 (by decide) (by decide)) (In_w qi23 (by decide) (by decide)) (Int.le_trans hfph0 (by decide))
    · have q17 : In 0 1 a2 := In_w (In_neR c7 h_a2 (by decide)) (by decide) (by decide)
      exact t_M_answers_B42 (Rlweak g0 (by decide +kernel) (by decide) (by decide))  h_a0 (In_w h_a1 (by decide) (by decide)) (In_w q17 (by decide) (by decide)) (In_w qi23 (by decide) (by decide)) (Int.le_trans hfph0 (by decide))
  · exact t_M_answers_B118 (Rlweak g0 (by decide +kernel) (by decide) (by decide))  h_a0 (In_w h_a1 (by decide) (by decide)) (Int.le_trans hfph0 (by decide))
theorem t_M_state {T : Nat → Nat} {S : AS} (hT : TI T S) {a0 : Option Nat} {a1 : Int32} (h_a0 : Tx T 100 a0) : Ho (f_M_state  S a0 a1) (fun q => Rl T kw_M4 S 0 0 T q.2 ∧ In 0 2 q.1) := by
  have g0 := Rlrf hT
  unfold f_M_state
  refine r_rv g0.1 h_a0 rfl ?_
  refine r_spl (u_isAttempt g0.1 h_a0) (fun q1 => ?_) ?_
  · have q2 : In 0 59 a1 := In_w q1.1 (by decide) (by decide)
    refine r_rv g0.1 h_a0 rfl ?_
    refine r_may (w' := kw_M4) g0 h_a0 (In_w (by decide : In 1 1 (1 : Int32)) (by decide) (by decide)) (by decide +kernel) (fun s3 g4 g4e c5 => ?_) (fun s3 g4 g4e => ?_)
    · refine r_ifF (by decide) ?_
      refine r_gR g4.1 h_a0 rfl rfl (fun v7 h6 => ?_)
      refine r_aIs g4.1 h6 rfl (p := 80) rfl rfl (In_w q2 (by decide) (by decide) : In 0 59 a1) (by decide) (fun v8 b7 e8 => ?_)
      have q9 : In 0 2 v8 := b7 _ _ rfl
      exact r_some ⟨(Rlweak g4 (by decide +kernel) (by decide) (by decide)), (In_w q9 (by decide) (by decide))⟩
    · refine r_ifT (by decide) ?_
      exact r_some ⟨(Rlweak g4 (by decide +kernel) (by decide) (by decide)), (In_w (by decide : In 0 0 (0 : Int32)) (by decide) (by decide))⟩
  · refine r_rv g0.1 h_a0 rfl ?_
    refine r_may (w' := kw_M4) g0 h_a0 (In_w (by decide : In 0 0 (0 : Int32)) (by decide) (by decide)) (by decide +kernel) (fun s10 g11 g11e c12 => ?_) (fun s10 g11 g11e => ?_)
    · exact absurd rfl c12
    · refine r_ifT (by decide) ?_
      exact r_some ⟨(Rlweak g11 (by decide +kernel) (by decide) (by decide)), (In_w (by decide : In 0 0 (0 : Int32)) (by decide) (by decide))⟩
theorem t_M_sessionOf {T : Nat → Nat} {S : AS} (hT : TI T S) {a0 : Option Nat} {a1 : Int32} (h_a0 : Tx T 100 a0) : Ho (f_M_sessionOf  S a0 a1) (fun q => Rl T kw_M4 S 0 0 T q.2 ∧ In (-1) 59 q.1) := by
  have g0 := Rlrf hT
  unfold f_M_sessionOf
  refine r_rv g0.1 h_a0 rfl ?_
  refine r_spl (u_isAttempt g0.1 h_a0) (fun q1 => ?_) ?_
  · have q2 : In 0 59 a1 := In_w q1.1 (by decide) (by decide)
    refine r_rv g0.1 h_a0 rfl ?_
    refine r_may (w' := kw_M4) g0 h_a0 (In_w (by decide : In 1 1 (1 : Int32)) (by decide) (by decide)) (by decide +kernel) (fun s3 g4 g4e c5 => ?_) (fun s3 g4 g4e => ?_)
    · refine r_ifF (by decide) ?_
      refine r_gR g4.1 h_a0 rfl rfl (fun v7 h6 => ?_)
      refine r_aIs g4.1 h6 rfl (p := 83) rfl rfl (In_w q2 (by decide) (by decide) : In 0 59 a1) (by decide) (fun v8 b7 e8 => ?_)
      have q9 : In (-1) 59 v8 := b7 _ _ rfl
      exact r_some ⟨(Rlweak g4 (by decide +kernel) (by decide) (by decide)), (In_w q9 (by decide) (by decide))⟩
    · refine r_ifT (by decide) ?_
      exact r_some ⟨(Rlweak g4 (by decide +kernel) (by decide) (by decide)), (In_w (by decide : In 0 0 (0 : Int32)) (by decide) (by decide))⟩
  · refine r_rv g0.1 h_a0 rfl ?_
    refine r_may (w' := kw_M4) g0 h_a0 (In_w (by decide : In 0 0 (0 : Int32)) (by decide) (by decide)) (by decide +kernel) (fun s10 g11 g11e c12 => ?_) (fun s10 g11 g11e => ?_)
    · exact absurd rfl c12
    · refine r_ifT (by decide) ?_
      exact r_some ⟨(Rlweak g11 (by decide +kernel) (by decide) (by decide)), (In_w (by decide : In 0 0 (0 : Int32)) (by decide) (by decide))⟩
theorem t_M_risk {T : Nat → Nat} {S : AS} (hT : TI T S) {a0 : Option Nat} {a1 : Int32} (h_a0 : Tx T 100 a0) : Ho (f_M_risk  S a0 a1) (fun q => Rl T kw_M4 S 0 0 T q.2 ∧ True) := by
  have g0 := Rlrf hT
  unfold f_M_risk
  refine r_rv g0.1 h_a0 rfl ?_
  refine r_spl (u_isAttempt g0.1 h_a0) (fun q1 => ?_) ?_
  · have q2 : In 0 59 a1 := In_w q1.1 (by decide) (by decide)
    refine r_rv g0.1 h_a0 rfl ?_
    refine r_may (w' := kw_M4) g0 h_a0 (In_w (by decide : In 1 1 (1 : Int32)) (by decide) (by decide)) (by decide +kernel) (fun s3 g4 g4e c5 => ?_) (fun s3 g4 g4e => ?_)
    · refine r_ifF (by decide) ?_
      refine r_rv g4.1 h_a0 rfl ?_
      refine r_P (P := fun v => True) (t_M_riskOf g4.1 h_a0 (In_w q2 (by decide) (by decide))) (fun v9 h6 => ?_)
      exact r_some ⟨(Rlweak g4 (by decide +kernel) (by decide) (by decide)), trivial⟩
    · refine r_ifT (by decide) ?_
      exact r_some ⟨(Rlweak g4 (by decide +kernel) (by decide) (by decide)), trivial⟩
  · refine r_rv g0.1 h_a0 rfl ?_
    refine r_may (w' := kw_M4) g0 h_a0 (In_w (by decide : In 0 0 (0 : Int32)) (by decide) (by decide)) (by decide +kernel) (fun s7 g8 g8e c9 => ?_) (fun s7 g8 g8e => ?_)
    · exact absurd rfl c9
    · refine r_ifT (by decide) ?_
      exact r_some ⟨(Rlweak g8 (by decide +kernel) (by decide) (by decide)), trivial⟩
theorem t_M_trialRisk {T : Nat → Nat} {S : AS} (hT : TI T S) {a0 : Option Nat} {a1 : Int32} (h_a0 : Tx T 100 a0) : Ho (f_M_trialRisk  S a0 a1) (fun q => Rl T kw_M4 S 0 0 T q.2 ∧ True) := by
  have g0 := Rlrf hT
  unfold f_M_trialRisk
  refine r_rv g0.1 h_a0 rfl ?_
  refine r_spl (u_isAttempt g0.1 h_a0) (fun q1 => ?_) ?_
  · have q2 : In 0 59 a1 := In_w q1.1 (by decide) (by decide)
    refine r_rv g0.1 h_a0 rfl ?_
    refine r_may (w' := kw_M4) g0 h_a0 (In_w (by decide : In 1 1 (1 : Int32)) (by decide) (by decide)) (by decide +kernel) (fun s3 g4 g4e c5 => ?_) (fun s3 g4 g4e => ?_)
    · refine r_ifF (by decide) ?_
      refine r_rv g4.1 h_a0 rfl ?_
      refine r_P (P := fun v => True) (t_M_riskOf g4.1 h_a0 (In_w q2 (by decide) (by decide))) (fun v9 h6 => ?_)
      exact r_some ⟨(Rlweak g4 (by decide +kernel) (by decide) (by decide)), trivial⟩
    · refine r_ifT (by decide) ?_
      exact r_some ⟨(Rlweak g4 (by decide +kernel) (by decide) (by decide)), trivial⟩
  · refine r_rv g0.1 h_a0 rfl ?_
    refine r_may (w' := kw_M4) g0 h_a0 (In_w (by decide : In 0 0 (0 : Int32)) (by decide) (by decide)) (by decide +kernel) (fun s7 g8 g8e c9 => ?_) (fun s7 g8 g8e => ?_)
    · exact absurd rfl c9
    · refine r_ifT (by decide) ?_
      exact r_some ⟨(Rlweak g8 (by decide +kernel) (by decide) (by decide)), trivial⟩
theorem t_M_sessions {T : Nat → Nat} {S : AS} (hT : TI T S) {a0 : Option Nat} (h_a0 : Tx T 100 a0) : Ho (f_M_sessions  S a0) (fun q => Rl T kw_M4 S 0 0 T q.2 ∧ In 0 60 q.1) := by
  have g0 := Rlrf hT
  unfold f_M_sessions
  refine r_pIs (w' := kw_M4) g0 h_a0 (fun _ _ q => by cases q) (by decide +kernel) (by unfold phc; decide) (fun s1 g2 e3 => ?_)
  have f4 : In 0 0 (sI s1 57 82) := In_eqw e3 (In_w (by decide : In 0 0 (0 : Int32)) (by decide) (by decide))
  refine r_gIs g2.1 h_a0 rfl (p := 57) rfl (fun v2 b5 e6 => ?_)
  have q7 : In 0 60 v2 := b5 _ _ rfl
  exact r_some ⟨(Rlweak g2 (by decide +kernel) (by decide) (by decide)), (In_w q7 (by decide) (by decide))⟩
theorem t_M_isLive {T : Nat → Nat} {S : AS} (hT : TI T S) {a0 : Option Nat} {a1 : Int32} (h_a0 : Tx T 100 a0) : Ho (f_M_isLive  S a0 a1) (fun q => Rl T kw_M4 S 0 0 T q.2 ∧ In 0 1 q.1) := by
  have g0 := Rlrf hT
  unfold f_M_isLive
  refine r_rv g0.1 h_a0 rfl ?_
  refine r_spl (u_isSession g0.1 h_a0) (fun q1 => ?_) ?_
  · have q2 : In 0 59 a1 := In_w q1.1 (by decide) (by decide)
    refine r_rv g0.1 h_a0 rfl ?_
    refine r_may (w' := kw_M4) g0 h_a0 (In_w (by decide : In 1 1 (1 : Int32)) (by decide) (by decide)) (by decide +kernel) (fun s3 g4 g4e c5 => ?_) (fun s3 g4 g4e => ?_)
    · refine r_ifF (by decide) ?_
      refine r_gR g4.1 h_a0 rfl rfl (fun v7 h6 => ?_)
      refine r_aIs g4.1 h6 rfl (p := 89) rfl rfl (In_w q2 (by decide) (by decide) : In 0 59 a1) (by decide) (fun v8 b7 e8 => ?_)
      have q9 : In 0 1 v8 := b7 _ _ rfl
      refine r_if (fun c10 => ?_) (fun c10 => ?_)
      · have q11 : In 0 0 v8 := In_w (In_eq c10 (by decide : In 0 0 (0 : Int32))) (by decide) (by decide)
        exact r_some ⟨(Rlweak g4 (by decide +kernel) (by decide) (by decide)), (In_w (by decide : In 0 0 (0 : Int32)) (by decide) (by decide))⟩
      · have q12 : In 1 1 v8 := In_w (In_neL c10 q9 (by decide)) (by decide) (by decide)
        exact r_some ⟨(Rlweak g4 (by decide +kernel) (by decide) (by decide)), (In_w (by decide : In 1 1 (1 : Int32)) (by decide) (by decide))⟩
    · refine r_ifT (by decide) ?_
      exact r_some ⟨(Rlweak g4 (by decide +kernel) (by decide) (by decide)), (In_w (by decide : In 0 0 (0 : Int32)) (by decide) (by decide))⟩
  · refine r_rv g0.1 h_a0 rfl ?_
    refine r_may (w' := kw_M4) g0 h_a0 (In_w (by decide : In 0 0 (0 : Int32)) (by decide) (by decide)) (by decide +kernel) (fun s13 g14 g14e c15 => ?_) (fun s13 g14 g14e => ?_)
    · exact absurd rfl c15
    · refine r_ifT (by decide) ?_
      exact r_some ⟨(Rlweak g14 (by decide +kernel) (by decide) (by decide)), (In_w (by decide : In 0 0 (0 : Int32)) (by decide) (by decide))⟩
theorem t_M_isLiveByAudit_B64_3c1 {T : Nat → Nat} {S0 S : AS} (g : Rl T kw_M4 S0 0 0 T S) {x0 : Option Nat} {x1 : Int32} {x3 : Int32} {k18 : AS → Option Nat → Int32 → Int32 → Int32 → Option (Int32 × AS)} {n18 : Nat} (hk18 : ∀ (S' : AS) (z0 : Option Nat) (z1 : Int32) (z2 : Int32) (z3 : Int32), Rl T kw_M4 S0 0 0 T S' → Tx T 100 z0 → In 0 59 z1 → In 0 1 z2 → In 0 1200 z3 → (1200 + 1 : Int) ≤ z3.toInt + (n18 : Int) → Ho (k18 S' z0 z1 z2 z3) (fun q => Rl T kw_M4 S0 0 0 T q.2 ∧ In 0 1 q.1)) (hm18 : (1200 + 1 : Int) ≤ x3.toInt + ((n18 + 1 : Nat) : Int)) (h_x0 : Tx T 100 x0) (h_x1 : In 0 59 x1) (h_x3 : In 0 1199 x3) (hx_57_77 : In 1 1200 (sI S 57 77)) : Ho (f_M_isLiveByAudit_B64 k18 S x0 x1 x3 (1 : Int32)) (fun q => Rl T kw_M4 S0 0 0 T q.2 ∧ In 0 1 q.1) := by
  unfold f_M_isLiveByAudit_B64
  refine r_val ?_
  generalize ei1 : (x3 + (1 : Int32)) = i1
  have qi1 : In 1 1200 i1 := by rw [← ei1]; exact (In_w (In_add h_x3 (by decide : In 1 1 (1 : Int32)) (by decide) (by decide)) (by decide) (by decide) : In 1 1200 (x3 + (1 : Int32)))
  exact hk18 S x0 x1 (1 : Int32) i1 (Rlweak g (by decide +kernel) (by decide) (by decide)) h_x0 (In_w h_x1 (by decide) (by decide)) (In_w (by decide : In 1 1 (1 : Int32)) (by decide) (by decide)) (In_w qi1 (by decide) (by decide))  (by rw [← ei1, toInt_add1 h_x3 (by decide) (by decide)]; omega)
theorem t_M_isLiveByAudit_B64_3c0 {T : Nat → Nat} {S0 S : AS} (g : Rl T kw_M4 S0 0 0 T S) {x0 : Option Nat} {x1 : Int32} {x3 : Int32} {k18 : AS → Option Nat → Int32 → Int32 → Int32 → Option (Int32 × AS)} {n18 : Nat} (hk18 : ∀ (S' : AS) (z0 : Option Nat) (z1 : Int32) (z2 : Int32) (z3 : Int32), Rl T kw_M4 S0 0 0 T S' → Tx T 100 z0 → In 0 59 z1 → In 0 1 z2 → In 0 1200 z3 → (1200 + 1 : Int) ≤ z3.toInt + (n18 : Int) → Ho (k18 S' z0 z1 z2 z3) (fun q => Rl T kw_M4 S0 0 0 T q.2 ∧ In 0 1 q.1)) (hm18 : (1200 + 1 : Int) ≤ x3.toInt + ((n18 + 1 : Nat) : Int)) (h_x0 : Tx T 100 x0) (h_x1 : In 0 59 x1) (h_x3 : In 0 1199 x3) (hx_57_77 : In 1 1200 (sI S 57 77)) : Ho (f_M_isLiveByAudit_B64 k18 S x0 x1 x3 (0 : Int32)) (fun q => Rl T kw_M4 S0 0 0 T q.2 ∧ In 0 1 q.1) := by
  unfold f_M_isLiveByAudit_B64
  refine r_val ?_
  generalize ei1 : (x3 + (1 : Int32)) = i1
  have qi1 : In 1 1200 i1 := by rw [← ei1]; exact (In_w (In_add h_x3 (by decide : In 1 1 (1 : Int32)) (by decide) (by decide)) (by decide) (by decide) : In 1 1200 (x3 + (1 : Int32)))
  exact hk18 S x0 x1 (0 : Int32) i1 (Rlweak g (by decide +kernel) (by decide) (by decide)) h_x0 (In_w h_x1 (by decide) (by decide)) (In_w (by decide : In 0 0 (0 : Int32)) (by decide) (by decide)) (In_w qi1 (by decide) (by decide))  (by rw [← ei1, toInt_add1 h_x3 (by decide) (by decide)]; omega)
theorem t_M_isLiveByAudit_B64 {T : Nat → Nat} {S0 S : AS} (g : Rl T kw_M4 S0 0 0 T S) {x0 : Option Nat} {x1 : Int32} {x3 : Int32} {y0 : Int32} {k18 : AS → Option Nat → Int32 → Int32 → Int32 → Option (Int32 × AS)} {n18 : Nat} (hk18 : ∀ (S' : AS) (z0 : Option Nat) (z1 : Int32) (z2 : Int32) (z3 : Int32), Rl T kw_M4 S0 0 0 T S' → Tx T 100 z0 → In 0 59 z1 → In 0 1 z2 → In 0 1200 z3 → (1200 + 1 : Int) ≤ z3.toInt + (n18 : Int) → Ho (k18 S' z0 z1 z2 z3) (fun q => Rl T kw_M4 S0 0 0 T q.2 ∧ In 0 1 q.1)) (hm18 : (1200 + 1 : Int) ≤ x3.toInt + ((n18 + 1 : Nat) : Int)) (h_x0 : Tx T 100 x0) (h_x1 : In 0 59 x1) (h_x3 : In 0 1199 x3) (h_y0 : In 0 1 y0) (hx_57_77 : In 1 1200 (sI S 57 77)) : Ho (f_M_isLiveByAudit_B64 k18 S x0 x1 x3 y0) (fun q => Rl T kw_M4 S0 0 0 T q.2 ∧ In 0 1 q.1) := by
  unfold f_M_isLiveByAudit_B64
  refine r_val ?_
  generalize ei1 : (x3 + (1 : Int32)) = i1
  have qi1 : In 1 1200 i1 := by rw [← ei1]; exact (In_w (In_add h_x3 (by decide : In 1 1 (1 : Int32)) (by decide) (by decide)) (by decide) (by decide) : In 1 1200 (x3 + (1 : Int32)))
  exact hk18 S x0 x1 y0 i1 (Rlweak g (by decide +kernel) (by decide) (by decide)) h_x0 (In_w h_x1 (by decide) (by decide)) (In_w h_y0 (by decide) (by decide)) (In_w qi1 (by decide) (by decide))  (by rw [← ei1, toInt_add1 h_x3 (by decide) (by decide)]; omega)
theorem t_M_isLiveByAudit_B63 {T : Nat → Nat} {S0 S : AS} (g : Rl T kw_M4 S0 0 0 T S) {x0 : Option Nat} {x1 : Int32} {x2 : Int32} {x3 : Int32} {k18 : AS → Option Nat → Int32 → Int32 → Int32 → Option (Int32 × AS)} {n18 : Nat} (hk18 : ∀ (S' : AS) (z0 : Option Nat) (z1 : Int32) (z2 : Int32) (z3 : Int32), Rl T kw_M4 S0 0 0 T S' → Tx T 100 z0 → In 0 59 z1 → In 0 1 z2 → In 0 1200 z3 → (1200 + 1 : Int) ≤ z3.toInt + (n18 : Int) → Ho (k18 S' z0 z1 z2 z3) (fun q => Rl T kw_M4 S0 0 0 T q.2 ∧ In 0 1 q.1)) (hm18 : (1200 + 1 : Int) ≤ x3.toInt + ((n18 + 1 : Nat) : Int)) (h_x0 : Tx T 100 x0) (h_x1 : In 0 59 x1) (h_x2 : In 0 1 x2) (h_x3 : In 0 1199 x3) (hx_57_77 : In 1 1200 (sI S 57 77)) : Ho (f_M_isLiveByAudit_B63 k18 S x0 x1 x2 x3) (fun q => Rl T kw_M4 S0 0 0 T q.2 ∧ In 0 1 q.1) := by
  unfold f_M_isLiveByAudit_B63
  exact t_M_isLiveByAudit_B64 (Rlweak g (by decide +kernel) (by decide) (by decide)) hk18 hm18 h_x0 (In_w h_x1 (by decide) (by decide)) (In_w h_x3 (by decide) (by decide)) (In_w h_x2 (by decide) (by decide)) (In_w hx_57_77 (by decide) (by decide)) 
theorem t_M_isLiveByAudit_C18 {T : Nat → Nat} {S0 S : AS} (g : Rl T kw_M4 S0 0 0 T S) {x0 : Option Nat} {x1 : Int32} {x2 : Int32} {x3 : Int32} {k18 : AS → Option Nat → Int32 → Int32 → Int32 → Option (Int32 × AS)} {n18 : Nat} (hk18 : ∀ (S' : AS) (z0 : Option Nat) (z1 : Int32) (z2 : Int32) (z3 : Int32), Rl T kw_M4 S0 0 0 T S' → Tx T 100 z0 → In 0 59 z1 → In 0 1 z2 → In 0 1200 z3 → (1200 + 1 : Int) ≤ z3.toInt + (n18 : Int) → Ho (k18 S' z0 z1 z2 z3) (fun q => Rl T kw_M4 S0 0 0 T q.2 ∧ In 0 1 q.1)) (hm18 : (1200 + 1 : Int) ≤ x3.toInt + ((n18 + 1 : Nat) : Int)) (h_x0 : Tx T 100 x0) (h_x1 : In 0 59 x1) (h_x2 : In 0 1 x2) (h_x3 : In 0 1200 x3) : Ho (f_M_isLiveByAudit_C18 k18 S x0 x1 x2 x3) (fun q => Rl T kw_M4 S0 0 0 T q.2 ∧ In 0 1 q.1) := by
  unfold f_M_isLiveByAudit_C18
  refine r_gIs g.1 h_x0 rfl (p := 57) rfl (fun v2 b1 e2 => ?_)
  have q3 : In 0 1200 v2 := b1 _ _ rfl
  refine r_if (fun c4 => ?_) (fun c4 => ?_)
  · refine r_z (In_w h_x2 (by decide) (by decide)) ?_
    exact r_some ⟨(Rlweak g (by decide +kernel) (by decide) (by decide)), (In_w h_x2 (by decide) (by decide))⟩
  · have q5 : In 0 1199 x3 := In_w (In_lt1 (Int32.not_le.mp c4) h_x3 q3) (by decide) (by decide)
    have q6 : In 1 1200 v2 := In_w (In_lt2 (Int32.not_le.mp c4) h_x3 q3) (by decide) (by decide)
    refine r_gR g.1 h_x0 rfl rfl (fun v4 h7 => ?_)
    refine r_aIs g.1 h7 rfl (p := 124) rfl rfl (In_w q5 (by decide) (by decide) : In 0 1199 x3) (by decide) (fun v5 b8 e9 => ?_)
    refine r_if (fun c10 => ?_) (fun c10 => ?_)
    · have q11 : In 0 59 v5 := In_w (In_eq c10 h_x1) (by decide) (by decide)
      refine r_gR g.1 h_x0 rfl rfl (fun v6 h12 => ?_)
      refine r_aIs g.1 h12 rfl (p := 123) rfl rfl (In_w q5 (by decide) (by decide) : In 0 1199 x3) (by decide) (fun v7 b13 e14 => ?_)
      refine r_if (fun c15 => ?_) (fun c15 => ?_)
      · have q16 : In 2 2147483647 v7 := In_w (In_le2 c15 (by decide : In 2 2 (2 : Int32)) (In_top v7)) (by decide) (by decide)
        exact t_M_isLiveByAudit_B63 (Rlweak g (by decide +kernel) (by decide) (by decide)) hk18 hm18 h_x0 (In_w h_x1 (by decide) (by decide)) (In_w h_x2 (by decide) (by decide)) (In_w q5 (by decide) (by decide)) (In_w (In_cell e2 q6) (by decide) (by decide)) 
      · have q17 : In (-2147483648) 1 v7 := In_w (In_lt1 (Int32.not_le.mp c15) (In_top v7) (by decide : In 2 2 (2 : Int32))) (by decide) (by decide)
        refine r_gR g.1 h_x0 rfl rfl (fun v8 h18 => ?_)
        refine r_aIs g.1 h18 rfl (p := 123) rfl rfl (In_w q5 (by decide) (by decide) : In 0 1199 x3) (by decide) (fun v9 b19 e20 => ?_)
        have q21 : In (-2147483648) 1 v9 := In_w (In_read e20 (In_cell e14 q17)) (by decide) (by decide)
        refine r_if (fun c22 => ?_) (fun c22 => ?_)
        · have q23 : In 0 0 v9 := In_w (In_eq c22 (by decide : In 0 0 (0 : Int32))) (by decide) (by decide)
          exact t_M_isLiveByAudit_B64_3c1 (Rlweak g (by decide +kernel) (by decide) (by decide)) hk18 hm18 h_x0 (In_w h_x1 (by decide) (by decide)) (In_w q5 (by decide) (by decide)) (In_w (In_cell e2 q6) (by decide) (by decide)) 
        · exact t_M_isLiveByAudit_B64_3c0 (Rlweak g (by decide +kernel) (by decide) (by decide)) hk18 hm18 h_x0 (In_w h_x1 (by decide) (by decide)) (In_w q5 (by decide) (by decide)) (In_w (In_cell e2 q6) (by decide) (by decide))
    · exact t_M_isLiveByAudit_B63 (Rlweak g (by decide +kernel) (by decide) (by decide)) hk18 hm18 h_x0 (In_w h_x1 (by decide) (by decide)) (In_w h_x2 (by decide) (by decide)) (In_w q5 (by decide) (by decide)) (In_w (In_cell e2 q6) (by decide) (by decide))
theorem t_M_isLiveByAudit_L18 {T : Nat → Nat} {S0 : AS} : ∀ (n : Nat) (S : AS) (x0 : Option Nat) (x1 : Int32) (x2 : Int32) (x3 : Int32), Rl T kw_M4 S0 0 0 T S → Tx T 100 x0 → In 0 59 x1 → In 0 1 x2 → In 0 1200 x3 → (1200 + 1 : Int) ≤ x3.toInt + (n : Int) → Ho (f_M_isLiveByAudit_L18  n S x0 x1 x2 x3) (fun q => Rl T kw_M4 S0 0 0 T q.2 ∧ In 0 1 q.1) := by
  intro n
  induction n with
  | zero =>
    intro S x0 x1 x2 x3 g h_x0 h_x1 h_x2 h_x3 hm
    exact absurd hm (by have := h_x3.2; omega)
  | succ n ih =>
    intro S x0 x1 x2 x3 g h_x0 h_x1 h_x2 h_x3 hm
    exact t_M_isLiveByAudit_C18 g  (fun S' z0 z1 z2 z3 g' a_h_x0 a_h_x1 a_h_x2 a_h_x3 am => ih S' z0 z1 z2 z3 g' a_h_x0 a_h_x1 a_h_x2 a_h_x3 am) hm h_x0 h_x1 h_x2 h_x3 
theorem t_M_isLiveByAudit {T : Nat → Nat} {S : AS} (hT : TI T S) {a0 : Option Nat} {a1 : Int32} (h_a0 : Tx T 100 a0) : Ho (f_M_isLiveByAudit  S a0 a1) (fun q => Rl T kw_M4 S 0 0 T q.2 ∧ In 0 1 q.1) := by
  have g0 := Rlrf hT
  unfold f_M_isLiveByAudit
  refine r_rv g0.1 h_a0 rfl ?_
  refine r_spl (u_isSession g0.1 h_a0) (fun q1 => ?_) ?_
  · have q2 : In 0 59 a1 := In_w q1.1 (by decide) (by decide)
    refine r_rv g0.1 h_a0 rfl ?_
    refine r_may (w' := kw_M4) g0 h_a0 (In_w (by decide : In 1 1 (1 : Int32)) (by decide) (by decide)) (by decide +kernel) (fun s3 g4 g4e c5 => ?_) (fun s3 g4 g4e => ?_)
    · refine r_ifF (by decide) ?_
      exact t_M_isLiveByAudit_L18   kr_FU s3 a0 a1 (0 : Int32) (0 : Int32) (Rlweak g4 (by decide +kernel) (by decide) (by decide)) h_a0 (In_w q2 (by decide) (by decide)) (In_w (by decide : In 0 0 (0 : Int32)) (by decide) (by decide)) (In_w (by decide : In 0 0 (0 : Int32)) (by decide) (by decide))  (by decide)
    · refine r_ifT (by decide) ?_
      exact r_some ⟨(Rlweak g4 (by decide +kernel) (by decide) (by decide)), (In_w (by decide : In 0 0 (0 : Int32)) (by decide) (by decide))⟩
  · refine r_rv g0.1 h_a0 rfl ?_
    refine r_may (w' := kw_M4) g0 h_a0 (In_w (by decide : In 0 0 (0 : Int32)) (by decide) (by decide)) (by decide +kernel) (fun s6 g7 g7e c8 => ?_) (fun s6 g7 g7e => ?_)
    · exact absurd rfl c8
    · refine r_ifT (by decide) ?_
      exact r_some ⟨(Rlweak g7 (by decide +kernel) (by decide) (by decide)), (In_w (by decide : In 0 0 (0 : Int32)) (by decide) (by decide))⟩
theorem t_M_levelNow_B47 {T : Nat → Nat} {S : AS} (hT : TI T S) {x0 : Option Nat} {x1 : Int32} {x3 : Int32} {y0 : Int32} {y1 : Int32} {k4 : AS → Option Nat → Int32 → Int32 → Int32 → Option (Int32 × AS)} {n4 : Nat} (hk4 : ∀ (z0 : Option Nat) (z1 : Int32) (z2 : Int32) (z3 : Int32), Tx T 100 z0 → In 0 59 z1 → In 0 7 z2 → In 0 3 z3 → (3 + 1 : Int) ≤ z3.toInt + (n4 : Int) → Ho (k4 S z0 z1 z2 z3) (fun q => q.2 = S ∧ True)) (hm4 : (3 + 1 : Int) ≤ x3.toInt + ((n4 + 1 : Nat) : Int)) (h_x0 : Tx T 100 x0) (h_x1 : In 0 59 x1) (h_x3 : In 0 2 x3) (h_y0 : In 0 7 y0) (h_y1 : In 1 4 y1) : Ho (f_M_levelNow_B47 k4 S x0 x1 x3 y0 y1) (fun q => q.2 = S ∧ True) := by
  unfold f_M_levelNow_B47
  refine r_val ?_
  generalize ei1 : (y0 ||| y1) = i1
  have qi1 : In 0 7 i1 := by rw [← ei1]; exact (In_w (In_or7 (In_w h_y0 (by decide) (by decide)) (In_w h_y1 (by decide) (by decide))) (by decide) (by decide) : In 0 7 (y0 ||| y1))
  refine r_val ?_
  generalize ei2 : (x3 + (1 : Int32)) = i2
  have qi2 : In 1 3 i2 := by rw [← ei2]; exact (In_w (In_add h_x3 (by decide : In 1 1 (1 : Int32)) (by decide) (by decide)) (by decide) (by decide) : In 1 3 (x3 + (1 : Int32)))
  exact hk4  x0 x1 i1 i2  h_x0 (In_w h_x1 (by decide) (by decide)) (In_w qi1 (by decide) (by decide)) (In_w qi2 (by decide) (by decide))  (by rw [← ei2, toInt_add1 h_x3 (by decide) (by decide)]; omega)
theorem t_M_levelNow_B47_4c0 {T : Nat → Nat} {S : AS} (hT : TI T S) {x0 : Option Nat} {x1 : Int32} {x3 : Int32} {y0 : Int32} {k4 : AS → Option Nat → Int32 → Int32 → Int32 → Option (Int32 × AS)} {n4 : Nat} (hk4 : ∀ (z0 : Option Nat) (z1 : Int32) (z2 : Int32) (z3 : Int32), Tx T 100 z0 → In 0 59 z1 → In 0 7 z2 → In 0 3 z3 → (3 + 1 : Int) ≤ z3.toInt + (n4 : Int) → Ho (k4 S z0 z1 z2 z3) (fun q => q.2 = S ∧ True)) (hm4 : (3 + 1 : Int) ≤ x3.toInt + ((n4 + 1 : Nat) : Int)) (h_x0 : Tx T 100 x0) (h_x1 : In 0 59 x1) (h_x3 : In 0 2 x3) (h_y0 : In 0 7 y0) : Ho (f_M_levelNow_B47 k4 S x0 x1 x3 y0 (0 : Int32)) (fun q => q.2 = S ∧ True) := by
  unfold f_M_levelNow_B47
  refine r_val ?_
  generalize ei1 : (y0 ||| (0 : Int32)) = i1
  have qi1 : In 0 7 i1 := by rw [← ei1]; exact (In_w (In_or7 (In_w h_y0 (by decide) (by decide)) (In_w (by decide : In 0 0 (0 : Int32)) (by decide) (by decide))) (by decide) (by decide) : In 0 7 (y0 ||| (0 : Int32)))
  refine r_val ?_
  generalize ei2 : (x3 + (1 : Int32)) = i2
  have qi2 : In 1 3 i2 := by rw [← ei2]; exact (In_w (In_add h_x3 (by decide : In 1 1 (1 : Int32)) (by decide) (by decide)) (by decide) (by decide) : In 1 3 (x3 + (1 : Int32)))
  exact hk4  x0 x1 i1 i2  h_x0 (In_w h_x1 (by decide) (by decide)) (In_w qi1 (by decide) (by decide)) (In_w qi2 (by decide) (by decide))  (by rw [← ei2, toInt_add1 h_x3 (by decide) (by decide)]; omega)
theorem t_M_levelNow_B46 {T : Nat → Nat} {S : AS} (hT : TI T S) {x0 : Option Nat} {x1 : Int32} {x3 : Int32} {y0 : Int32} {k4 : AS → Option Nat → Int32 → Int32 → Int32 → Option (Int32 × AS)} {n4 : Nat} (hk4 : ∀ (z0 : Option Nat) (z1 : Int32) (z2 : Int32) (z3 : Int32), Tx T 100 z0 → In 0 59 z1 → In 0 7 z2 → In 0 3 z3 → (3 + 1 : Int) ≤ z3.toInt + (n4 : Int) → Ho (k4 S z0 z1 z2 z3) (fun q => q.2 = S ∧ True)) (hm4 : (3 + 1 : Int) ≤ x3.toInt + ((n4 + 1 : Nat) : Int)) (h_x0 : Tx T 100 x0) (h_x1 : In 0 59 x1) (h_x3 : In 0 2 x3) (h_y0 : In 0 7 y0) : Ho (f_M_levelNow_B46 k4 S x0 x1 x3 y0) (fun q => q.2 = S ∧ True) := by
  unfold f_M_levelNow_B46
  exact t_M_levelNow_B47_4c0 hT hk4 hm4 h_x0 (In_w h_x1 (by decide) (by decide)) (In_w h_x3 (by decide) (by decide)) (In_w h_y0 (by decide) (by decide)) 
theorem t_M_levelNow_C4 {T : Nat → Nat} {S : AS} (hT : TI T S) {x0 : Option Nat} {x1 : Int32} {x2 : Int32} {x3 : Int32} {k4 : AS → Option Nat → Int32 → Int32 → Int32 → Option (Int32 × AS)} {n4 : Nat} (hk4 : ∀ (z0 : Option Nat) (z1 : Int32) (z2 : Int32) (z3 : Int32), Tx T 100 z0 → In 0 59 z1 → In 0 7 z2 → In 0 3 z3 → (3 + 1 : Int) ≤ z3.toInt + (n4 : Int) → Ho (k4 S z0 z1 z2 z3) (fun q => q.2 = S ∧ True)) (hm4 : (3 + 1 : Int) ≤ x3.toInt + ((n4 + 1 : Nat) : Int)) (h_x0 : Tx T 100 x0) (h_x1 : In 0 59 x1) (h_x2 : In 0 7 x2) (h_x3 : In 0 3 x3) : Ho (f_M_levelNow_C4 k4 S x0 x1 x2 x3) (fun q => q.2 = S ∧ True) := by
  unfold f_M_levelNow_C4
  refine r_if (fun c1 => ?_) (fun c1 => ?_)
  · have q2 : In 3 3 x3 := In_w (In_le2 c1 (by decide : In 3 3 (3 : Int32)) h_x3) (by decide) (by decide)
    refine r_P (P := fun v => True) (t_M_levelOf hT ) (fun v4 h3 => ?_)
    exact r_some ⟨rfl, trivial⟩
  · have q4 : In 0 2 x3 := In_w (In_lt1 (Int32.not_le.mp c1) h_x3 (by decide : In 3 3 (3 : Int32))) (by decide) (by decide)
    refine r_gR hT h_x0 rfl rfl (fun v5 h5 => ?_)
    refine r_aIs hT h5 rfl (p := 90) rfl rfl (In_w (In_w (In_add (In_w (In_mulc (k := 3) h_x1 (by decide) (by decide) (by decide) (by decide)) (by decide) (by decide) : In 0 177 ((3 : Int32) * x1)) q4 (by decide) (by decide)) (by decide) (by decide) : In 0 179 (((3 : Int32) * x1) + x3)) (by decide) (by decide) : In 0 179 (((3 : Int32) * x1) + x3)) (by decide) (fun v6 b6 e7 => ?_)
    refine r_if (fun c8 => ?_) (fun c8 => ?_)
    · have q9 : In (-1) (-1) v6 := In_w (In_eq c8 (by decide : In (-1) (-1) (-1 : Int32))) (by decide) (by decide)
      exact t_M_levelNow_B46 hT hk4 hm4 h_x0 (In_w h_x1 (by decide) (by decide)) (In_w q4 (by decide) (by decide)) (In_w h_x2 (by decide) (by decide)) 
    · refine r_gIs hT h_x0 rfl (p := 57) rfl (fun v7 b10 e11 => ?_)
      refine r_if (fun c12 => ?_) (fun c12 => ?_)
      · exact t_M_levelNow_B46 hT hk4 hm4 h_x0 (In_w h_x1 (by decide) (by decide)) (In_w q4 (by decide) (by decide)) (In_w h_x2 (by decide) (by decide))
      · exact t_M_levelNow_B47 hT hk4 hm4 h_x0 (In_w h_x1 (by decide) (by decide)) (In_w q4 (by decide) (by decide)) (In_w h_x2 (by decide) (by decide)) (In_w (In_w (In_shl2 (In_w q4 (by decide) (by decide))) (by decide) (by decide) : In 1 4 ((1 : Int32) <<< (x3 &&& (31 : Int32)))) (by decide) (by decide))
theorem t_M_levelNow_L4 {T : Nat → Nat} {S : AS} (hT : TI T S) : ∀ (n : Nat) (x0 : Option Nat) (x1 : Int32) (x2 : Int32) (x3 : Int32), Tx T 100 x0 → In 0 59 x1 → In 0 7 x2 → In 0 3 x3 → (3 + 1 : Int) ≤ x3.toInt + (n : Int) → Ho (f_M_levelNow_L4  n S x0 x1 x2 x3) (fun q => q.2 = S ∧ True) := by
  intro n
  induction n with
  | zero =>
    intro x0 x1 x2 x3 h_x0 h_x1 h_x2 h_x3 hm
    exact absurd hm (by have := h_x3.2; omega)
  | succ n ih =>
    intro x0 x1 x2 x3 h_x0 h_x1 h_x2 h_x3 hm
    exact t_M_levelNow_C4 hT  (fun z0 z1 z2 z3 a_h_x0 a_h_x1 a_h_x2 a_h_x3 am => ih z0 z1 z2 z3 a_h_x0 a_h_x1 a_h_x2 a_h_x3 am) hm h_x0 h_x1 h_x2 h_x3 
theorem t_M_levelNow {T : Nat → Nat} {S : AS} (hT : TI T S) {a0 : Option Nat} {a1 : Int32} (h_a0 : Tx T 100 a0) (h_a1 : In 0 59 a1) : Ho (f_M_levelNow  S a0 a1) (fun q => q.2 = S ∧ True) := by
  unfold f_M_levelNow
  exact t_M_levelNow_L4 hT   kr_FU  a0 a1 (0 : Int32) (0 : Int32)  h_a0 (In_w h_a1 (by decide) (by decide)) (In_w (by decide : In 0 0 (0 : Int32)) (by decide) (by decide)) (In_w (by decide : In 0 0 (0 : Int32)) (by decide) (by decide))  (by decide)
theorem t_M_level {T : Nat → Nat} {S : AS} (hT : TI T S) {a0 : Option Nat} {a1 : Int32} (h_a0 : Tx T 100 a0) : Ho (f_M_level  S a0 a1) (fun q => Rl T kw_M4 S 0 0 T q.2 ∧ True) := by
  have g0 := Rlrf hT
  unfold f_M_level
  refine r_rv g0.1 h_a0 rfl ?_
  refine r_spl (u_isSession g0.1 h_a0) (fun q1 => ?_) ?_
  · have q2 : In 0 59 a1 := In_w q1.1 (by decide) (by decide)
    refine r_rv g0.1 h_a0 rfl ?_
    refine r_may (w' := kw_M4) g0 h_a0 (In_w (by decide : In 1 1 (1 : Int32)) (by decide) (by decide)) (by decide +kernel) (fun s3 g4 g4e c5 => ?_) (fun s3 g4 g4e => ?_)
    · refine r_ifF (by decide) ?_
      refine r_rv g4.1 h_a0 rfl ?_
      refine r_P (P := fun v => True) (t_M_levelNow g4.1 h_a0 (In_w q2 (by decide) (by decide))) (fun v9 h6 => ?_)
      exact r_some ⟨(Rlweak g4 (by decide +kernel) (by decide) (by decide)), trivial⟩
    · refine r_ifT (by decide) ?_
      exact r_some ⟨(Rlweak g4 (by decide +kernel) (by decide) (by decide)), trivial⟩
  · refine r_rv g0.1 h_a0 rfl ?_
    refine r_may (w' := kw_M4) g0 h_a0 (In_w (by decide : In 0 0 (0 : Int32)) (by decide) (by decide)) (by decide +kernel) (fun s7 g8 g8e c9 => ?_) (fun s7 g8 g8e => ?_)
    · exact absurd rfl c9
    · refine r_ifT (by decide) ?_
      exact r_some ⟨(Rlweak g8 (by decide +kernel) (by decide) (by decide)), trivial⟩
theorem t_M_stepUp_B112 {T : Nat → Nat} {S0 S : AS} (g : Rl T kw_M47 S0 1 0 T S) {x0 : Option Nat} {x1 : Int32} (h_x0 : Tx T 100 x0) (h_x1 : In 0 59 x1) (hx_89_x1 : In 1 1 (sI S 89 x1.toNatClampNeg)) (hfph0 : Ph S0 ≤ 1100) : Ho (f_M_stepUp_B112  S x0 x1) (fun q => Rl T kw_M47 S0 1 0 T q.2 ∧ True) := by
  unfold f_M_stepUp_B112
  refine r_rv g.1 h_x0 rfl ?_
  refine r_P (P := fun v => True) (t_M_levelNow g.1 h_x0 (In_w h_x1 (by decide) (by decide))) (fun v3 h1 => ?_)
  exact r_some ⟨(Rlweak g (by decide +kernel) (by decide) (by decide)), trivial⟩
theorem t_M_stepUp_B63_5t100_6c1_7c1_8c1 {T : Nat → Nat} {S0 S : AS} (g : Rl T [] S0 0 0 T S) {x0 : Option Nat} {x1 : Int32} {x2 : Int32} {x3 : Int32} {x4 : Int32} {y0 : Option Nat} (h_x0 : Tx T 100 x0) (h_x1 : In 0 59 x1) (h_x2 : In 0 2 x2) (h_x4 : In 0 9999 x4) (h_y0 : Tx T 100 y0) (hx_89_x1 : In 1 1 (sI S 89 x1.toNatClampNeg)) (hfph0 : Ph S0 ≤ 1100) : Ho (f_M_stepUp_B63  S x0 x1 x2 x3 x4 y0 (1 : Int32) (1 : Int32) (1 : Int32)) (fun q => Rl T kw_M47 S0 1 0 T q.2 ∧ True) := by
  unfold f_M_stepUp_B63
  refine r_rv g.1 h_y0 rfl ?_
  refine r_mayAll (w' := kw_M4) g h_y0 (by decide +kernel) (fun s1 g2 g2e c3 c4 c5 => ?_) (fun s1 g2 g2e => ?_)
  · have f6 : In 1 1 (sI s1 89 x1.toNatClampNeg) := by rw [g2e 89 x1.toNatClampNeg (by omega)]; exact hx_89_x1
    refine r_ifF (by decide) ?_
    refine r_gR g2.1 h_x0 rfl rfl (fun v7 h7 => ?_)
    refine r_gIs g2.1 h_x0 rfl (p := 57) rfl (fun v8 b8 e9 => ?_)
    refine r_bIs (w' := kw_M45) g2 h7 rfl (p := 87) rfl rfl (In_w h_x1 (by decide) (by decide) : In 0 59 x1) (by decide) (fun _ _ _ q => by cases q) (fun _ => rfl) (by decide) (by decide +kernel) (fun _ => by unfold phc; omega) (fun s10 g11 e12 => ?_)
    have f13 : In 1 1 (sI s10 89 x1.toNatClampNeg) := In_ne e12 (by omega) f6
    refine r_gR g11.1 h_x0 rfl rfl (fun v10 h14 => ?_)
    refine r_aIs g11.1 h14 rfl (p := 85) rfl rfl (In_w h_x1 (by decide) (by decide) : In 0 59 x1) (by decide) (fun v11 b15 e16 => ?_)
    have q17 : In 0 5 v11 := b15 _ _ rfl
    refine r_rv g11.1 h_x0 rfl ?_
    refine r_b2 (t_M_answers g11.1 h_x0 (In_w q17 (by decide) (by decide)) (In_w h_x2 (by decide) (by decide)) (phS hfph0 g11 (by decide))) (fun v14 s19 h18 => ?_)
    obtain ⟨g20, h18r⟩ := h18
    have g21 : Rl T kw_M46 S0 1 0 T s19 := Rltrans g11 g20 (by decide +kernel)
    have f22 : In 1 1 (sI s19 89 x1.toNatClampNeg) := In_fr g20 h_x0 (j := 35) rfl rfl (by decide) (by decide +kernel) f13
    refine r_if (fun c23 => ?_) (fun c23 => ?_)
    · have q24 : In 0 0 v14 := In_w (In_eq c23 (by decide : In 0 0 (0 : Int32))) (by decide) (by decide)
      exact t_M_stepUp_B112 (Rlweak g21 (by decide +kernel) (by decide) (by decide))  h_x0 (In_w h_x1 (by decide) (by decide)) (In_w f22 (by decide) (by decide)) (Int.le_trans hfph0 (by decide))
    · have q25 : In 1 1 v14 := In_w (In_neL c23 h18r (by decide)) (by decide) (by decide)
      refine r_gR g21.1 h_x0 rfl rfl (fun v15 h26 => ?_)
      refine r_gIs g21.1 h_x0 rfl (p := 57) rfl (fun v16 b27 e28 => ?_)
      refine r_bIs (w' := kw_M47) g21 h26 rfl (p := 90) rfl rfl (In_w (In_w (In_add (In_w (In_mulc (k := 3) h_x1 (by decide) (by decide) (by decide) (by decide)) (by decide) (by decide) : In 0 177 ((3 : Int32) * x1)) h_x2 (by decide) (by decide)) (by decide) (by decide) : In 0 179 (((3 : Int32) * x1) + x2)) (by decide) (by decide) : In 0 179 (((3 : Int32) * x1) + x2)) (by decide) (fun _ _ _ q => by cases q) (fun _ => rfl) (by decide) (by decide +kernel) (fun _ => by unfold phc; omega) (fun s29 g30 e31 => ?_)
      have f32 : In 1 1 (sI s29 89 x1.toNatClampNeg) := In_ne e31 (by omega) f22
      exact t_M_stepUp_B112 (Rlweak g30 (by decide +kernel) (by decide) (by decide))  h_x0 (In_w h_x1 (by decide) (by decide)) (In_w f32 (by decide) (by decide)) (Int.le_trans hfph0 (by decide))
  · have f33 : In 1 1 (sI s1 89 x1.toNatClampNeg) := by rw [g2e 89 x1.toNatClampNeg (by omega)]; exact hx_89_x1
    refine r_ifT (by decide) ?_
    exact r_some ⟨(Rlweak g2 (by decide +kernel) (by decide) (by decide)), trivial⟩
theorem t_M_stepUp_B63_5t100_6c1_7c1_8c0 {T : Nat → Nat} {S0 S : AS} (g : Rl T [] S0 0 0 T S) {x0 : Option Nat} {x1 : Int32} {x2 : Int32} {x3 : Int32} {x4 : Int32} {y0 : Option Nat} (h_x0 : Tx T 100 x0) (h_x1 : In 0 59 x1) (h_x2 : In 0 2 x2) (h_x4 : In 0 9999 x4) (h_y0 : Tx T 100 y0) (hx_89_x1 : In 0 1 (sI S 89 x1.toNatClampNeg)) (hfph0 : Ph S0 ≤ 1100) : Ho (f_M_stepUp_B63  S x0 x1 x2 x3 x4 y0 (1 : Int32) (1 : Int32) (0 : Int32)) (fun q => Rl T kw_M47 S0 1 0 T q.2 ∧ True) := by
  unfold f_M_stepUp_B63
  refine r_rv g.1 h_y0 rfl ?_
  refine r_mayAll (w' := kw_M4) g h_y0 (by decide +kernel) (fun s1 g2 g2e c3 c4 c5 => ?_) (fun s1 g2 g2e => ?_)
  · exact absurd rfl c5
  · have f6 : In 0 1 (sI s1 89 x1.toNatClampNeg) := by rw [g2e 89 x1.toNatClampNeg (by omega)]; exact hx_89_x1
    refine r_ifT (by decide) ?_
    exact r_some ⟨(Rlweak g2 (by decide +kernel) (by decide) (by decide)), trivial⟩
theorem t_M_stepUp_B63_5t100_6c1_7c0_8c1 {T : Nat → Nat} {S0 S : AS} (g : Rl T [] S0 0 0 T S) {x0 : Option Nat} {x1 : Int32} {x2 : Int32} {x3 : Int32} {x4 : Int32} {y0 : Option Nat} (h_x0 : Tx T 100 x0) (h_x1 : In 0 59 x1) (h_y0 : Tx T 100 y0) (hx_89_x1 : In 1 1 (sI S 89 x1.toNatClampNeg)) (hfph0 : Ph S0 ≤ 1100) : Ho (f_M_stepUp_B63  S x0 x1 x2 x3 x4 y0 (1 : Int32) (0 : Int32) (1 : Int32)) (fun q => Rl T kw_M47 S0 1 0 T q.2 ∧ True) := by
  unfold f_M_stepUp_B63
  refine r_rv g.1 h_y0 rfl ?_
  refine r_mayAll (w' := kw_M4) g h_y0 (by decide +kernel) (fun s1 g2 g2e c3 c4 c5 => ?_) (fun s1 g2 g2e => ?_)
  · exact absurd rfl c4
  · have f6 : In 1 1 (sI s1 89 x1.toNatClampNeg) := by rw [g2e 89 x1.toNatClampNeg (by omega)]; exact hx_89_x1
    refine r_ifT (by decide) ?_
    exact r_some ⟨(Rlweak g2 (by decide +kernel) (by decide) (by decide)), trivial⟩
theorem t_M_stepUp_B63_5t100_6c0_7c1_8c0 {T : Nat → Nat} {S0 S : AS} (g : Rl T [] S0 0 0 T S) {x0 : Option Nat} {x1 : Int32} {x2 : Int32} {x3 : Int32} {x4 : Int32} {y0 : Option Nat} (h_x0 : Tx T 100 x0) (h_x2 : In 0 2 x2) (h_x4 : In 0 9999 x4) (h_y0 : Tx T 100 y0) (hfph0 : Ph S0 ≤ 1100) : Ho (f_M_stepUp_B63  S x0 x1 x2 x3 x4 y0 (0 : Int32) (1 : Int32) (0 : Int32)) (fun q => Rl T kw_M47 S0 1 0 T q.2 ∧ True) := by
  unfold f_M_stepUp_B63
  refine r_rv g.1 h_y0 rfl ?_
  refine r_mayAll (w' := kw_M4) g h_y0 (by decide +kernel) (fun s1 g2 g2e c3 c4 c5 => ?_) (fun s1 g2 g2e => ?_)
  · exact absurd rfl c3
  · refine r_ifT (by decide) ?_
    exact r_some ⟨(Rlweak g2 (by decide +kernel) (by decide) (by decide)), trivial⟩
theorem t_M_stepUp_B63_5t100_6c1_7c0_8c0 {T : Nat → Nat} {S0 S : AS} (g : Rl T [] S0 0 0 T S) {x0 : Option Nat} {x1 : Int32} {x2 : Int32} {x3 : Int32} {x4 : Int32} {y0 : Option Nat} (h_x0 : Tx T 100 x0) (h_x1 : In 0 59 x1) (h_y0 : Tx T 100 y0) (hx_89_x1 : In 0 1 (sI S 89 x1.toNatClampNeg)) (hfph0 : Ph S0 ≤ 1100) : Ho (f_M_stepUp_B63  S x0 x1 x2 x3 x4 y0 (1 : Int32) (0 : Int32) (0 : Int32)) (fun q => Rl T kw_M47 S0 1 0 T q.2 ∧ True) := by
  unfold f_M_stepUp_B63
  refine r_rv g.1 h_y0 rfl ?_
  refine r_mayAll (w' := kw_M4) g h_y0 (by decide +kernel) (fun s1 g2 g2e c3 c4 c5 => ?_) (fun s1 g2 g2e => ?_)
  · exact absurd rfl c4
  · have f6 : In 0 1 (sI s1 89 x1.toNatClampNeg) := by rw [g2e 89 x1.toNatClampNeg (by omega)]; exact hx_89_x1
    refine r_ifT (by decide) ?_
    exact r_some ⟨(Rlweak g2 (by decide +kernel) (by decide) (by decide)), trivial⟩
theorem t_M_stepUp_B63_5t100_6c0_7c0_8c0 {T : Nat → Nat} {S0 S : AS} (g : Rl T [] S0 0 0 T S) {x0 : Option Nat} {x1 : Int32} {x2 : Int32} {x3 : Int32} {x4 : Int32} {y0 : Option Nat} (h_x0 : Tx T 100 x0) (h_y0 : Tx T 100 y0) (hfph0 : Ph S0 ≤ 1100) : Ho (f_M_stepUp_B63  S x0 x1 x2 x3 x4 y0 (0 : Int32) (0 : Int32) (0 : Int32)) (fun q => Rl T kw_M47 S0 1 0 T q.2 ∧ True) := by
  unfold f_M_stepUp_B63
  refine r_rv g.1 h_y0 rfl ?_
  refine r_mayAll (w' := kw_M4) g h_y0 (by decide +kernel) (fun s1 g2 g2e c3 c4 c5 => ?_) (fun s1 g2 g2e => ?_)
  · exact absurd rfl c3
  · refine r_ifT (by decide) ?_
    exact r_some ⟨(Rlweak g2 (by decide +kernel) (by decide) (by decide)), trivial⟩
theorem t_M_stepUp_B62_5t100_6c1_7c1 {T : Nat → Nat} {S0 S : AS} (g : Rl T [] S0 0 0 T S) {x0 : Option Nat} {x1 : Int32} {x2 : Int32} {x3 : Int32} {x4 : Int32} {y0 : Option Nat} (h_x0 : Tx T 100 x0) (h_x1 : In 0 59 x1) (h_x2 : In 0 2 x2) (h_x4 : In 0 9999 x4) (h_y0 : Tx T 100 y0) (hx_89_x1 : In 0 1 (sI S 89 x1.toNatClampNeg)) (hfph0 : Ph S0 ≤ 1100) : Ho (f_M_stepUp_B62  S x0 x1 x2 x3 x4 y0 (1 : Int32) (1 : Int32)) (fun q => Rl T kw_M47 S0 1 0 T q.2 ∧ True) := by
  unfold f_M_stepUp_B62
  exact t_M_stepUp_B63_5t100_6c1_7c1_8c0 (Rlweak g (by decide +kernel) (by decide) (by decide))  h_x0 (In_w h_x1 (by decide) (by decide)) (In_w h_x2 (by decide) (by decide)) (In_w h_x4 (by decide) (by decide)) h_y0 (In_w hx_89_x1 (by decide) (by decide)) (Int.le_trans hfph0 (by decide))
theorem t_M_stepUp_B62_5t100_6c0_7c1 {T : Nat → Nat} {S0 S : AS} (g : Rl T [] S0 0 0 T S) {x0 : Option Nat} {x1 : Int32} {x2 : Int32} {x3 : Int32} {x4 : Int32} {y0 : Option Nat} (h_x0 : Tx T 100 x0) (h_x2 : In 0 2 x2) (h_x4 : In 0 9999 x4) (h_y0 : Tx T 100 y0) (hfph0 : Ph S0 ≤ 1100) : Ho (f_M_stepUp_B62  S x0 x1 x2 x3 x4 y0 (0 : Int32) (1 : Int32)) (fun q => Rl T kw_M47 S0 1 0 T q.2 ∧ True) := by
  unfold f_M_stepUp_B62
  exact t_M_stepUp_B63_5t100_6c0_7c1_8c0 (Rlweak g (by decide +kernel) (by decide) (by decide))  h_x0 (In_w h_x2 (by decide) (by decide)) (In_w h_x4 (by decide) (by decide)) h_y0 (Int.le_trans hfph0 (by decide))
theorem t_M_stepUp_B62_5t100_6c1_7c0 {T : Nat → Nat} {S0 S : AS} (g : Rl T [] S0 0 0 T S) {x0 : Option Nat} {x1 : Int32} {x2 : Int32} {x3 : Int32} {x4 : Int32} {y0 : Option Nat} (h_x0 : Tx T 100 x0) (h_x1 : In 0 59 x1) (h_y0 : Tx T 100 y0) (hx_89_x1 : In 0 1 (sI S 89 x1.toNatClampNeg)) (hfph0 : Ph S0 ≤ 1100) : Ho (f_M_stepUp_B62  S x0 x1 x2 x3 x4 y0 (1 : Int32) (0 : Int32)) (fun q => Rl T kw_M47 S0 1 0 T q.2 ∧ True) := by
  unfold f_M_stepUp_B62
  exact t_M_stepUp_B63_5t100_6c1_7c0_8c0 (Rlweak g (by decide +kernel) (by decide) (by decide))  h_x0 (In_w h_x1 (by decide) (by decide)) h_y0 (In_w hx_89_x1 (by decide) (by decide)) (Int.le_trans hfph0 (by decide))
theorem t_M_stepUp_B62_5t100_6c0_7c0 {T : Nat → Nat} {S0 S : AS} (g : Rl T [] S0 0 0 T S) {x0 : Option Nat} {x1 : Int32} {x2 : Int32} {x3 : Int32} {x4 : Int32} {y0 : Option Nat} (h_x0 : Tx T 100 x0) (h_y0 : Tx T 100 y0) (hfph0 : Ph S0 ≤ 1100) : Ho (f_M_stepUp_B62  S x0 x1 x2 x3 x4 y0 (0 : Int32) (0 : Int32)) (fun q => Rl T kw_M47 S0 1 0 T q.2 ∧ True) := by
  unfold f_M_stepUp_B62
  exact t_M_stepUp_B63_5t100_6c0_7c0_8c0 (Rlweak g (by decide +kernel) (by decide) (by decide))  h_x0 h_y0 (Int.le_trans hfph0 (by decide))
theorem t_M_stepUp_B34_5c1_6t100_7c1_8c1 {T : Nat → Nat} {S0 S : AS} (g : Rl T [] S0 0 0 T S) {x0 : Option Nat} {x1 : Int32} {x2 : Int32} {x3 : Int32} {x4 : Int32} {y0 : Option Nat} (h_x0 : Tx T 100 x0) (h_x1 : In 0 59 x1) (h_x2 : In 0 2 x2) (h_x4 : In 0 9999 x4) (h_y0 : Tx T 100 y0) (hfph0 : Ph S0 ≤ 1100) : Ho (f_M_stepUp_B34  S x0 x1 x2 x3 x4 (1 : Int32) y0 (1 : Int32) (1 : Int32)) (fun q => Rl T kw_M47 S0 1 0 T q.2 ∧ True) := by
  unfold f_M_stepUp_B34
  refine r_ifF (by decide) ?_
  refine r_gR g.1 h_x0 rfl rfl (fun v18 h1 => ?_)
  refine r_aIs g.1 h1 rfl (p := 89) rfl rfl (In_w h_x1 (by decide) (by decide) : In 0 59 x1) (by decide) (fun v19 b2 e3 => ?_)
  have q4 : In 0 1 v19 := b2 _ _ rfl
  refine r_if (fun c5 => ?_) (fun c5 => ?_)
  · have q6 : In 0 0 v19 := In_w (In_eq c5 (by decide : In 0 0 (0 : Int32))) (by decide) (by decide)
    exact t_M_stepUp_B62_5t100_6c1_7c1 (Rlweak g (by decide +kernel) (by decide) (by decide))  h_x0 (In_w h_x1 (by decide) (by decide)) (In_w h_x2 (by decide) (by decide)) (In_w h_x4 (by decide) (by decide)) h_y0 (In_w (In_cell e3 q6) (by decide) (by decide)) (Int.le_trans hfph0 (by decide))
  · have q7 : In 1 1 v19 := In_w (In_neL c5 q4 (by decide)) (by decide) (by decide)
    refine r_gR g.1 h_x0 rfl rfl (fun v20 h8 => ?_)
    refine r_aIs g.1 h8 rfl (p := 88) rfl rfl (In_w h_x1 (by decide) (by decide) : In 0 59 x1) (by decide) (fun v21 b9 e10 => ?_)
    have q11 : In (-1) 59 v21 := b9 _ _ rfl
    refine r_if (fun c12 => ?_) (fun c12 => ?_)
    · have q13 : In (-1) (-1) v21 := In_w (In_eq c12 (by decide : In (-1) (-1) (-1 : Int32))) (by decide) (by decide)
      exact t_M_stepUp_B63_5t100_6c1_7c1_8c1 (Rlweak g (by decide +kernel) (by decide) (by decide))  h_x0 (In_w h_x1 (by decide) (by decide)) (In_w h_x2 (by decide) (by decide)) (In_w h_x4 (by decide) (by decide)) h_y0 (In_w (In_cell e3 q7) (by decide) (by decide)) (Int.le_trans hfph0 (by decide))
    · have q14 : In 0 59 v21 := In_w (In_neL c12 q11 (by decide)) (by decide) (by decide)
      exact t_M_stepUp_B62_5t100_6c1_7c1 (Rlweak g (by decide +kernel) (by decide) (by decide))  h_x0 (In_w h_x1 (by decide) (by decide)) (In_w h_x2 (by decide) (by decide)) (In_w h_x4 (by decide) (by decide)) h_y0 (In_w (In_cell e3 q7) (by decide) (by decide)) (Int.le_trans hfph0 (by decide))
theorem t_M_stepUp_B34_5c0_6t100_7c0_8c1 {T : Nat → Nat} {S0 S : AS} (g : Rl T [] S0 0 0 T S) {x0 : Option Nat} {x1 : Int32} {x2 : Int32} {x3 : Int32} {x4 : Int32} {y0 : Option Nat} (h_x0 : Tx T 100 x0) (h_x2 : In 0 2 x2) (h_x4 : In 0 9999 x4) (h_y0 : Tx T 100 y0) (hfph0 : Ph S0 ≤ 1100) : Ho (f_M_stepUp_B34  S x0 x1 x2 x3 x4 (0 : Int32) y0 (0 : Int32) (1 : Int32)) (fun q => Rl T kw_M47 S0 1 0 T q.2 ∧ True) := by
  unfold f_M_stepUp_B34
  refine r_ifT (by decide) ?_
  exact t_M_stepUp_B62_5t100_6c0_7c1 (Rlweak g (by decide +kernel) (by decide) (by decide))  h_x0 (In_w h_x2 (by decide) (by decide)) (In_w h_x4 (by decide) (by decide)) h_y0 (Int.le_trans hfph0 (by decide))
theorem t_M_stepUp_B34_5c1_6t100_7c1_8c0 {T : Nat → Nat} {S0 S : AS} (g : Rl T [] S0 0 0 T S) {x0 : Option Nat} {x1 : Int32} {x2 : Int32} {x3 : Int32} {x4 : Int32} {y0 : Option Nat} (h_x0 : Tx T 100 x0) (h_x1 : In 0 59 x1) (h_y0 : Tx T 100 y0) (hfph0 : Ph S0 ≤ 1100) : Ho (f_M_stepUp_B34  S x0 x1 x2 x3 x4 (1 : Int32) y0 (1 : Int32) (0 : Int32)) (fun q => Rl T kw_M47 S0 1 0 T q.2 ∧ True) := by
  unfold f_M_stepUp_B34
  refine r_ifF (by decide) ?_
  refine r_gR g.1 h_x0 rfl rfl (fun v18 h1 => ?_)
  refine r_aIs g.1 h1 rfl (p := 89) rfl rfl (In_w h_x1 (by decide) (by decide) : In 0 59 x1) (by decide) (fun v19 b2 e3 => ?_)
  have q4 : In 0 1 v19 := b2 _ _ rfl
  refine r_if (fun c5 => ?_) (fun c5 => ?_)
  · have q6 : In 0 0 v19 := In_w (In_eq c5 (by decide : In 0 0 (0 : Int32))) (by decide) (by decide)
    exact t_M_stepUp_B62_5t100_6c1_7c0 (Rlweak g (by decide +kernel) (by decide) (by decide))  h_x0 (In_w h_x1 (by decide) (by decide)) h_y0 (In_w (In_cell e3 q6) (by decide) (by decide)) (Int.le_trans hfph0 (by decide))
  · have q7 : In 1 1 v19 := In_w (In_neL c5 q4 (by decide)) (by decide) (by decide)
    refine r_gR g.1 h_x0 rfl rfl (fun v20 h8 => ?_)
    refine r_aIs g.1 h8 rfl (p := 88) rfl rfl (In_w h_x1 (by decide) (by decide) : In 0 59 x1) (by decide) (fun v21 b9 e10 => ?_)
    have q11 : In (-1) 59 v21 := b9 _ _ rfl
    refine r_if (fun c12 => ?_) (fun c12 => ?_)
    · have q13 : In (-1) (-1) v21 := In_w (In_eq c12 (by decide : In (-1) (-1) (-1 : Int32))) (by decide) (by decide)
      exact t_M_stepUp_B63_5t100_6c1_7c0_8c1 (Rlweak g (by decide +kernel) (by decide) (by decide))  h_x0 (In_w h_x1 (by decide) (by decide)) h_y0 (In_w (In_cell e3 q7) (by decide) (by decide)) (Int.le_trans hfph0 (by decide))
    · have q14 : In 0 59 v21 := In_w (In_neL c12 q11 (by decide)) (by decide) (by decide)
      exact t_M_stepUp_B62_5t100_6c1_7c0 (Rlweak g (by decide +kernel) (by decide) (by decide))  h_x0 (In_w h_x1 (by decide) (by decide)) h_y0 (In_w (In_cell e3 q7) (by decide) (by decide)) (Int.le_trans hfph0 (by decide))
theorem t_M_stepUp_B34_5c0_6t100_7c0_8c0 {T : Nat → Nat} {S0 S : AS} (g : Rl T [] S0 0 0 T S) {x0 : Option Nat} {x1 : Int32} {x2 : Int32} {x3 : Int32} {x4 : Int32} {y0 : Option Nat} (h_x0 : Tx T 100 x0) (h_y0 : Tx T 100 y0) (hfph0 : Ph S0 ≤ 1100) : Ho (f_M_stepUp_B34  S x0 x1 x2 x3 x4 (0 : Int32) y0 (0 : Int32) (0 : Int32)) (fun q => Rl T kw_M47 S0 1 0 T q.2 ∧ True) := by
  unfold f_M_stepUp_B34
  refine r_ifT (by decide) ?_
  exact t_M_stepUp_B62_5t100_6c0_7c0 (Rlweak g (by decide +kernel) (by decide) (by decide))  h_x0 h_y0 (Int.le_trans hfph0 (by decide))
theorem t_M_stepUp_B33_5c1_6t100_7c1 {T : Nat → Nat} {S0 S : AS} (g : Rl T [] S0 0 0 T S) {x0 : Option Nat} {x1 : Int32} {x2 : Int32} {x3 : Int32} {x4 : Int32} {y0 : Option Nat} (h_x0 : Tx T 100 x0) (h_x1 : In 0 59 x1) (h_y0 : Tx T 100 y0) (hfph0 : Ph S0 ≤ 1100) : Ho (f_M_stepUp_B33  S x0 x1 x2 x3 x4 (1 : Int32) y0 (1 : Int32)) (fun q => Rl T kw_M47 S0 1 0 T q.2 ∧ True) := by
  unfold f_M_stepUp_B33
  exact t_M_stepUp_B34_5c1_6t100_7c1_8c0 (Rlweak g (by decide +kernel) (by decide) (by decide))  h_x0 (In_w h_x1 (by decide) (by decide)) h_y0 (Int.le_trans hfph0 (by decide))
theorem t_M_stepUp_B33_5c0_6t100_7c0 {T : Nat → Nat} {S0 S : AS} (g : Rl T [] S0 0 0 T S) {x0 : Option Nat} {x1 : Int32} {x2 : Int32} {x3 : Int32} {x4 : Int32} {y0 : Option Nat} (h_x0 : Tx T 100 x0) (h_y0 : Tx T 100 y0) (hfph0 : Ph S0 ≤ 1100) : Ho (f_M_stepUp_B33  S x0 x1 x2 x3 x4 (0 : Int32) y0 (0 : Int32)) (fun q => Rl T kw_M47 S0 1 0 T q.2 ∧ True) := by
  unfold f_M_stepUp_B33
  exact t_M_stepUp_B34_5c0_6t100_7c0_8c0 (Rlweak g (by decide +kernel) (by decide) (by decide))  h_x0 h_y0 (Int.le_trans hfph0 (by decide))
theorem t_M_stepUp {T : Nat → Nat} {S : AS} (hT : TI T S) {a0 : Option Nat} {a1 : Int32} {a2 : Int32} {a3 : Int32} {a4 : Int32} (h_a0 : Tx T 100 a0) (hfph0 : Ph S ≤ 1100) : Ho (f_M_stepUp  S a0 a1 a2 a3 a4) (fun q => Rl T kw_M47 S 1 0 T q.2 ∧ True) := by
  have g0 := Rlrf hT
  unfold f_M_stepUp
  refine r_rv g0.1 h_a0 rfl ?_
  refine r_spl (u_isSession g0.1 h_a0) (fun q1 => ?_) ?_
  · have q2 : In 0 59 a1 := In_w q1.1 (by decide) (by decide)
    refine r_spl (u_isFactor _ _) (fun q3 => ?_) ?_
    · have q4 : In 0 2 a2 := In_w q3 (by decide) (by decide)
      refine r_ifF (by decide) ?_
      refine r_Mi (fun p5 p5b => ?_) ?_
      · have q6 : In 0 2147483647 a4 := In_w (In_le2 p5 (by decide : In 0 0 (0 : Int32)) (In_top a4)) (by decide) (by decide)
        have q7 : In 0 9999 a4 := In_w (In_le1 p5b q6 (by decide : In 9999 9999 (9999 : Int32))) (by decide) (by decide)
        refine r_ifF (by decide) ?_
        exact t_M_stepUp_B34_5c1_6t100_7c1_8c1 (Rlweak g0 (by decide +kernel) (by decide) (by decide))  h_a0 (In_w q2 (by decide) (by decide)) (In_w q4 (by decide) (by decide)) (In_w q7 (by decide) (by decide)) h_a0 (Int.le_trans hfph0 (by decide))
      · refine r_ifT (by decide) ?_
        exact t_M_stepUp_B33_5c1_6t100_7c1 (Rlweak g0 (by decide +kernel) (by decide) (by decide))  h_a0 (In_w q2 (by decide) (by decide)) h_a0 (Int.le_trans hfph0 (by decide))
    · refine r_ifT (by decide) ?_
      exact t_M_stepUp_B33_5c1_6t100_7c1 (Rlweak g0 (by decide +kernel) (by decide) (by decide))  h_a0 (In_w q2 (by decide) (by decide)) h_a0 (Int.le_trans hfph0 (by decide))
  · refine r_spl (u_isFactor _ _) (fun q8 => ?_) ?_
    · have q9 : In 0 2 a2 := In_w q8 (by decide) (by decide)
      refine r_ifF (by decide) ?_
      refine r_Mi (fun p10 p10b => ?_) ?_
      · have q11 : In 0 2147483647 a4 := In_w (In_le2 p10 (by decide : In 0 0 (0 : Int32)) (In_top a4)) (by decide) (by decide)
        have q12 : In 0 9999 a4 := In_w (In_le1 p10b q11 (by decide : In 9999 9999 (9999 : Int32))) (by decide) (by decide)
        refine r_ifF (by decide) ?_
        exact t_M_stepUp_B34_5c0_6t100_7c0_8c1 (Rlweak g0 (by decide +kernel) (by decide) (by decide))  h_a0 (In_w q9 (by decide) (by decide)) (In_w q12 (by decide) (by decide)) h_a0 (Int.le_trans hfph0 (by decide))
      · refine r_ifT (by decide) ?_
        exact t_M_stepUp_B33_5c0_6t100_7c0 (Rlweak g0 (by decide +kernel) (by decide) (by decide))  h_a0 h_a0 (Int.le_trans hfph0 (by decide))
    · refine r_ifT (by decide) ?_
      exact t_M_stepUp_B33_5c0_6t100_7c0 (Rlweak g0 (by decide +kernel) (by decide) (by decide))  h_a0 h_a0 (Int.le_trans hfph0 (by decide))
theorem t_M_signOut_B26_2t100_3c1_4c1 {T : Nat → Nat} {S0 S : AS} (g : Rl T [] S0 0 0 T S) {x0 : Option Nat} {x1 : Int32} {y0 : Option Nat} (h_x0 : Tx T 100 x0) (h_x1 : In 0 59 x1) (h_y0 : Tx T 100 y0) (hx_89_x1 : In 1 1 (sI S 89 x1.toNatClampNeg)) (hfph0 : Ph S0 ≤ 1100) : Ho (f_M_signOut_B26  S x0 x1 y0 (1 : Int32) (1 : Int32)) (fun q => Rl T kw_M48 S0 0 0 T q.2 ∧ True) := by
  unfold f_M_signOut_B26
  refine r_rv g.1 h_y0 rfl ?_
  refine r_mayBoth (w' := kw_M4) g h_y0 (by decide +kernel) (fun s1 g2 g2e c3 c4 => ?_) (fun s1 g2 g2e => ?_)
  · have f5 : In 1 1 (sI s1 89 x1.toNatClampNeg) := by rw [g2e 89 x1.toNatClampNeg (by omega)]; exact hx_89_x1
    refine r_ifF (by decide) ?_
    refine r_rv g2.1 h_x0 rfl ?_
    refine r_b2 (t_M_endSession g2.1 h_x0 (In_w h_x1 (by decide) (by decide)) (In_w f5 (by decide) (by decide)) (phS hfph0 g2 (by decide))) (fun v6 s7 h6 => ?_)
    obtain ⟨g8, h6r⟩ := h6
    have g9 : Rl T kw_M48 S0 0 0 T s7 := Rltrans g2 g8 (by decide +kernel)
    exact r_some ⟨(Rlweak g9 (by decide +kernel) (by decide) (by decide)), trivial⟩
  · have f10 : In 1 1 (sI s1 89 x1.toNatClampNeg) := by rw [g2e 89 x1.toNatClampNeg (by omega)]; exact hx_89_x1
    refine r_ifT (by decide) ?_
    exact r_some ⟨(Rlweak g2 (by decide +kernel) (by decide) (by decide)), trivial⟩
theorem t_M_signOut_B26_2t100_3c1_4c0 {T : Nat → Nat} {S0 S : AS} (g : Rl T [] S0 0 0 T S) {x0 : Option Nat} {x1 : Int32} {y0 : Option Nat} (h_x0 : Tx T 100 x0) (h_x1 : In 0 59 x1) (h_y0 : Tx T 100 y0) (hx_89_x1 : In 0 0 (sI S 89 x1.toNatClampNeg)) (hfph0 : Ph S0 ≤ 1100) : Ho (f_M_signOut_B26  S x0 x1 y0 (1 : Int32) (0 : Int32)) (fun q => Rl T kw_M48 S0 0 0 T q.2 ∧ True) := by
  unfold f_M_signOut_B26
  refine r_rv g.1 h_y0 rfl ?_
  refine r_mayBoth (w' := kw_M4) g h_y0 (by decide +kernel) (fun s1 g2 g2e c3 c4 => ?_) (fun s1 g2 g2e => ?_)
  · exact absurd rfl c4
  · have f5 : In 0 0 (sI s1 89 x1.toNatClampNeg) := by rw [g2e 89 x1.toNatClampNeg (by omega)]; exact hx_89_x1
    refine r_ifT (by decide) ?_
    exact r_some ⟨(Rlweak g2 (by decide +kernel) (by decide) (by decide)), trivial⟩
theorem t_M_signOut_B26_2t100_3c0_4c0 {T : Nat → Nat} {S0 S : AS} (g : Rl T [] S0 0 0 T S) {x0 : Option Nat} {x1 : Int32} {y0 : Option Nat} (h_x0 : Tx T 100 x0) (h_y0 : Tx T 100 y0) (hfph0 : Ph S0 ≤ 1100) : Ho (f_M_signOut_B26  S x0 x1 y0 (0 : Int32) (0 : Int32)) (fun q => Rl T kw_M48 S0 0 0 T q.2 ∧ True) := by
  unfold f_M_signOut_B26
  refine r_rv g.1 h_y0 rfl ?_
  refine r_mayBoth (w' := kw_M4) g h_y0 (by decide +kernel) (fun s1 g2 g2e c3 c4 => ?_) (fun s1 g2 g2e => ?_)
  · exact absurd rfl c3
  · refine r_ifT (by decide) ?_
    exact r_some ⟨(Rlweak g2 (by decide +kernel) (by decide) (by decide)), trivial⟩
theorem t_M_signOut_B25_2t100_3c1 {T : Nat → Nat} {S0 S : AS} (g : Rl T [] S0 0 0 T S) {x0 : Option Nat} {x1 : Int32} {y0 : Option Nat} (h_x0 : Tx T 100 x0) (h_x1 : In 0 59 x1) (h_y0 : Tx T 100 y0) (hx_89_x1 : In 0 0 (sI S 89 x1.toNatClampNeg)) (hfph0 : Ph S0 ≤ 1100) : Ho (f_M_signOut_B25  S x0 x1 y0 (1 : Int32)) (fun q => Rl T kw_M48 S0 0 0 T q.2 ∧ True) := by
  unfold f_M_signOut_B25
  exact t_M_signOut_B26_2t100_3c1_4c0 (Rlweak g (by decide +kernel) (by decide) (by decide))  h_x0 (In_w h_x1 (by decide) (by decide)) h_y0 (In_w hx_89_x1 (by decide) (by decide)) (Int.le_trans hfph0 (by decide))
theorem t_M_signOut_B25_2t100_3c0 {T : Nat → Nat} {S0 S : AS} (g : Rl T [] S0 0 0 T S) {x0 : Option Nat} {x1 : Int32} {y0 : Option Nat} (h_x0 : Tx T 100 x0) (h_y0 : Tx T 100 y0) (hfph0 : Ph S0 ≤ 1100) : Ho (f_M_signOut_B25  S x0 x1 y0 (0 : Int32)) (fun q => Rl T kw_M48 S0 0 0 T q.2 ∧ True) := by
  unfold f_M_signOut_B25
  exact t_M_signOut_B26_2t100_3c0_4c0 (Rlweak g (by decide +kernel) (by decide) (by decide))  h_x0 h_y0 (Int.le_trans hfph0 (by decide))
theorem t_M_signOut {T : Nat → Nat} {S : AS} (hT : TI T S) {a0 : Option Nat} {a1 : Int32} (h_a0 : Tx T 100 a0) (hfph0 : Ph S ≤ 1100) : Ho (f_M_signOut  S a0 a1) (fun q => Rl T kw_M48 S 0 0 T q.2 ∧ True) := by
  have g0 := Rlrf hT
  unfold f_M_signOut
  refine r_rv g0.1 h_a0 rfl ?_
  refine r_spl (u_isSession g0.1 h_a0) (fun q1 => ?_) ?_
  · have q2 : In 0 59 a1 := In_w q1.1 (by decide) (by decide)
    refine r_ifF (by decide) ?_
    refine r_gR g0.1 h_a0 rfl rfl (fun v10 h3 => ?_)
    refine r_aIs g0.1 h3 rfl (p := 89) rfl rfl (In_w q2 (by decide) (by decide) : In 0 59 a1) (by decide) (fun v11 b4 e5 => ?_)
    have q6 : In 0 1 v11 := b4 _ _ rfl
    refine r_if (fun c7 => ?_) (fun c7 => ?_)
    · have q8 : In 0 0 v11 := In_w (In_eq c7 (by decide : In 0 0 (0 : Int32))) (by decide) (by decide)
      exact t_M_signOut_B25_2t100_3c1 (Rlweak g0 (by decide +kernel) (by decide) (by decide))  h_a0 (In_w q2 (by decide) (by decide)) h_a0 (In_w (In_cell e5 q8) (by decide) (by decide)) (Int.le_trans hfph0 (by decide))
    · have q9 : In 1 1 v11 := In_w (In_neL c7 q6 (by decide)) (by decide) (by decide)
      exact t_M_signOut_B26_2t100_3c1_4c1 (Rlweak g0 (by decide +kernel) (by decide) (by decide))  h_a0 (In_w q2 (by decide) (by decide)) h_a0 (In_w (In_cell e5 q9) (by decide) (by decide)) (Int.le_trans hfph0 (by decide))
  · refine r_ifT (by decide) ?_
    exact t_M_signOut_B25_2t100_3c0 (Rlweak g0 (by decide +kernel) (by decide) (by decide))  h_a0 h_a0 (Int.le_trans hfph0 (by decide))
theorem t_M_helper_B32_2t108_4c1 {T : Nat → Nat} {S0 S : AS} (g : Rl T kw_M4 S0 0 0 T S) {x0 : Option Nat} {x1 : Int32} {y0 : Option Nat} {y1 : Int32} (h_x0 : Tx T 100 x0) (h_x1 : In 0 5 x1) (h_y0 : Tx T 108 y0) (h_y1 : In 0 5 y1) : Ho (f_M_helper_B32  S x0 x1 y0 y1 (1 : Int32)) (fun q => Rl T kw_M49 S0 0 0 T q.2 ∧ In 0 1 q.1) := by
  unfold f_M_helper_B32
  refine r_bZs (w' := kw_M49) g h_y0 rfl (p := 65) rfl rfl (In_w h_y1 (by decide) (by decide) : In 0 5 y1) (by decide) (In_w (by decide : In 1 1 (1 : Int32)) (by decide) (by decide)) (fun _ _ _ q => by cases q; exact (In_w (by decide : In 1 1 (1 : Int32)) (by decide) (by decide))) (fun _ => rfl) (by decide) (by decide +kernel) (fun _ => by unfold phc; omega) (fun s1 g2 e3 => ?_)
  have f4 : In 1 1 (sI s1 65 y1.toNatClampNeg) := In_eqw e3 (In_w (by decide : In 1 1 (1 : Int32)) (by decide) (by decide))
  refine r_gR g2.1 h_x0 rfl rfl (fun v2 h5 => ?_)
  refine r_aIs g2.1 h5 rfl (p := 65) rfl rfl (In_w h_x1 (by decide) (by decide) : In 0 5 x1) (by decide) (fun v3 b6 e7 => ?_)
  have q8 : In 0 1 v3 := b6 _ _ rfl
  refine r_z (In_w q8 (by decide) (by decide)) ?_
  exact r_some ⟨(Rlweak g2 (by decide +kernel) (by decide) (by decide)), (In_w q8 (by decide) (by decide))⟩
theorem t_M_helper_B32_2t108_4c0 {T : Nat → Nat} {S0 S : AS} (g : Rl T kw_M4 S0 0 0 T S) {x0 : Option Nat} {x1 : Int32} {y0 : Option Nat} {y1 : Int32} (h_x0 : Tx T 100 x0) (h_x1 : In 0 5 x1) (h_y0 : Tx T 108 y0) (h_y1 : In 0 5 y1) : Ho (f_M_helper_B32  S x0 x1 y0 y1 (0 : Int32)) (fun q => Rl T kw_M49 S0 0 0 T q.2 ∧ In 0 1 q.1) := by
  unfold f_M_helper_B32
  refine r_bZs (w' := kw_M49) g h_y0 rfl (p := 65) rfl rfl (In_w h_y1 (by decide) (by decide) : In 0 5 y1) (by decide) (In_w (by decide : In 0 0 (0 : Int32)) (by decide) (by decide)) (fun _ _ _ q => by cases q; exact (In_w (by decide : In 0 0 (0 : Int32)) (by decide) (by decide))) (fun _ => rfl) (by decide) (by decide +kernel) (fun _ => by unfold phc; omega) (fun s1 g2 e3 => ?_)
  have f4 : In 0 0 (sI s1 65 y1.toNatClampNeg) := In_eqw e3 (In_w (by decide : In 0 0 (0 : Int32)) (by decide) (by decide))
  refine r_gR g2.1 h_x0 rfl rfl (fun v2 h5 => ?_)
  refine r_aIs g2.1 h5 rfl (p := 65) rfl rfl (In_w h_x1 (by decide) (by decide) : In 0 5 x1) (by decide) (fun v3 b6 e7 => ?_)
  have q8 : In 0 1 v3 := b6 _ _ rfl
  refine r_z (In_w q8 (by decide) (by decide)) ?_
  exact r_some ⟨(Rlweak g2 (by decide +kernel) (by decide) (by decide)), (In_w q8 (by decide) (by decide))⟩
theorem t_M_helper {T : Nat → Nat} {S : AS} (hT : TI T S) {a0 : Option Nat} {a1 : Int32} (h_a0 : Tx T 100 a0) : Ho (f_M_helper  S a0 a1) (fun q => Rl T kw_M49 S 0 0 T q.2 ∧ In 0 1 q.1) := by
  have g0 := Rlrf hT
  unfold f_M_helper
  refine r_spl (u_isSix _ _) (fun q1 => ?_) ?_
  · have q2 : In 0 5 a1 := In_w q1 (by decide) (by decide)
    refine r_rv g0.1 h_a0 rfl ?_
    refine r_may (w' := kw_M4) g0 h_a0 (In_w (by decide : In 1 1 (1 : Int32)) (by decide) (by decide)) (by decide +kernel) (fun s3 g4 g4e c5 => ?_) (fun s3 g4 g4e => ?_)
    · refine r_ifF (by decide) ?_
      refine r_gR g4.1 h_a0 rfl rfl (fun v10 h6 => ?_)
      refine r_gR g4.1 h_a0 rfl rfl (fun v11 h7 => ?_)
      refine r_aIs g4.1 h7 rfl (p := 65) rfl rfl (In_w q2 (by decide) (by decide) : In 0 5 a1) (by decide) (fun v12 b8 e9 => ?_)
      have q10 : In 0 1 v12 := b8 _ _ rfl
      refine r_if (fun c11 => ?_) (fun c11 => ?_)
      · have q12 : In 0 0 v12 := In_w (In_eq c11 (by decide : In 0 0 (0 : Int32))) (by decide) (by decide)
        exact t_M_helper_B32_2t108_4c1 (Rlweak g4 (by decide +kernel) (by decide) (by decide))  h_a0 (In_w q2 (by decide) (by decide)) h6 (In_w q2 (by decide) (by decide)) 
      · have q13 : In 1 1 v12 := In_w (In_neL c11 q10 (by decide)) (by decide) (by decide)
        exact t_M_helper_B32_2t108_4c0 (Rlweak g4 (by decide +kernel) (by decide) (by decide))  h_a0 (In_w q2 (by decide) (by decide)) h6 (In_w q2 (by decide) (by decide)) 
    · refine r_ifT (by decide) ?_
      exact r_some ⟨(Rlweak g4 (by decide +kernel) (by decide) (by decide)), (In_w (by decide : In 0 0 (0 : Int32)) (by decide) (by decide))⟩
  · refine r_rv g0.1 h_a0 rfl ?_
    refine r_may (w' := kw_M4) g0 h_a0 (In_w (by decide : In 0 0 (0 : Int32)) (by decide) (by decide)) (by decide +kernel) (fun s14 g15 g15e c16 => ?_) (fun s14 g15 g15e => ?_)
    · exact absurd rfl c16
    · refine r_ifT (by decide) ?_
      exact r_some ⟨(Rlweak g15 (by decide +kernel) (by decide) (by decide)), (In_w (by decide : In 0 0 (0 : Int32)) (by decide) (by decide))⟩
theorem t_M_act_C137 {T : Nat → Nat} {S0 S : AS} (g : Rl T kw_M50 S0 0 0 T S) {x0 : Option Nat} {x1 : Int32} {x5 : Int32} {x6 : Int32} {k137 : AS → Option Nat → Int32 → Int32 → Int32 → Option (Int32 × AS)} {n137 : Nat} (hk137 : ∀ (S' : AS) (z0 : Option Nat) (z1 : Int32) (z2 : Int32) (z3 : Int32), Rl T kw_M50 S0 0 0 T S' → Tx T 100 z0 → In 0 59 z1 → In 0 59 z2 → In 0 3 z3 → (3 + 1 : Int) ≤ z3.toInt + (n137 : Int) → Ho (k137 S' z0 z1 z2 z3) (fun q => Rl T kw_M50 S0 0 0 T q.2 ∧ In 0 59 q.1)) (hm137 : (3 + 1 : Int) ≤ x6.toInt + ((n137 + 1 : Nat) : Int)) (h_x0 : Tx T 100 x0) (h_x1 : In 0 59 x1) (h_x5 : In 0 59 x5) (h_x6 : In 0 3 x6) (hfph0 : Ph S0 ≤ 1100) : Ho (f_M_act_C137 k137 S x0 x1 x5 x6) (fun q => Rl T kw_M50 S0 0 0 T q.2 ∧ In 0 59 q.1) := by
  unfold f_M_act_C137
  refine r_if (fun c1 => ?_) (fun c1 => ?_)
  · have q2 : In 3 3 x6 := In_w (In_le2 c1 (by decide : In 3 3 (3 : Int32)) h_x6) (by decide) (by decide)
    exact r_some ⟨(Rlweak g (by decide +kernel) (by decide) (by decide)), (In_w h_x5 (by decide) (by decide))⟩
  · have q3 : In 0 2 x6 := In_w (In_lt1 (Int32.not_le.mp c1) h_x6 (by decide : In 3 3 (3 : Int32))) (by decide) (by decide)
    refine r_gR g.1 h_x0 rfl rfl (fun v1 h4 => ?_)
    refine r_gR g.1 h_x0 rfl rfl (fun v2 h5 => ?_)
    refine r_aIs g.1 h5 rfl (p := 90) rfl rfl (In_w (In_w (In_add (In_w (In_mulc (k := 3) h_x1 (by decide) (by decide) (by decide) (by decide)) (by decide) (by decide) : In 0 177 ((3 : Int32) * x1)) q3 (by decide) (by decide)) (by decide) (by decide) : In 0 179 (((3 : Int32) * x1) + x6)) (by decide) (by decide) : In 0 179 (((3 : Int32) * x1) + x6)) (by decide) (fun v3 b6 e7 => ?_)
    refine r_bIs (w' := kw_M50) g h4 rfl (p := 90) rfl rfl (In_w (In_w (In_add (In_w (In_mulc (k := 3) h_x5 (by decide) (by decide) (by decide) (by decide)) (by decide) (by decide) : In 0 177 ((3 : Int32) * x5)) q3 (by decide) (by decide)) (by decide) (by decide) : In 0 179 (((3 : Int32) * x5) + x6)) (by decide) (by decide) : In 0 179 (((3 : Int32) * x5) + x6)) (by decide) (fun _ _ _ q => by cases q) (fun _ => rfl) (by decide) (by decide +kernel) (fun _ => by unfold phc; omega) (fun s8 g9 e10 => ?_)
    refine r_val ?_
    generalize ei5 : (x6 + (1 : Int32)) = i5
    have qi5 : In 1 3 i5 := by rw [← ei5]; exact (In_w (In_add q3 (by decide : In 1 1 (1 : Int32)) (by decide) (by decide)) (by decide) (by decide) : In 1 3 (x6 + (1 : Int32)))
    exact hk137 s8 x0 x1 x5 i5 (Rlweak g9 (by decide +kernel) (by decide) (by decide)) h_x0 (In_w h_x1 (by decide) (by decide)) (In_w h_x5 (by decide) (by decide)) (In_w qi5 (by decide) (by decide))  (by rw [← ei5, toInt_add1 q3 (by decide) (by decide)]; omega)
theorem t_M_act_L137 {T : Nat → Nat} {S0 : AS} (hfph0 : Ph S0 ≤ 1100) : ∀ (n : Nat) (S : AS) (x0 : Option Nat) (x1 : Int32) (x5 : Int32) (x6 : Int32), Rl T kw_M50 S0 0 0 T S → Tx T 100 x0 → In 0 59 x1 → In 0 59 x5 → In 0 3 x6 → (3 + 1 : Int) ≤ x6.toInt + (n : Int) → Ho (f_M_act_L137  n S x0 x1 x5 x6) (fun q => Rl T kw_M50 S0 0 0 T q.2 ∧ In 0 59 q.1) := by
  intro n
  induction n with
  | zero =>
    intro S x0 x1 x5 x6 g h_x0 h_x1 h_x5 h_x6 hm
    exact absurd hm (by have := h_x6.2; omega)
  | succ n ih =>
    intro S x0 x1 x5 x6 g h_x0 h_x1 h_x5 h_x6 hm
    exact t_M_act_C137 g  (fun S' z0 z1 z2 z3 g' a_h_x0 a_h_x1 a_h_x5 a_h_x6 am => ih S' z0 z1 z2 z3 g' a_h_x0 a_h_x1 a_h_x5 a_h_x6 am) hm h_x0 h_x1 h_x5 h_x6 hfph0
theorem t_M_act_B112_3c1_4c1 {T : Nat → Nat} {S0 S : AS} (g : Rl T [] S0 0 0 T S) {x0 : Option Nat} {x1 : Int32} {x2 : Int32} (h_x0 : Tx T 100 x0) (h_x1 : In 0 59 x1) (h_x2 : In 0 5 x2) (hx_57_30 : In 0 59 (sI S 57 30)) (hx_89_x1 : In 1 1 (sI S 89 x1.toNatClampNeg)) (hfph0 : Ph S0 ≤ 1100) : Ho (f_M_act_B112  S x0 x1 x2 (1 : Int32) (1 : Int32)) (fun q => Rl T kw_M50 S0 0 0 T q.2 ∧ In 0 59 q.1) := by
  unfold f_M_act_B112
  refine r_rv g.1 h_x0 rfl ?_
  refine r_mayBoth (w' := kw_M4) g h_x0 (by decide +kernel) (fun s1 g2 g2e c3 c4 => ?_) (fun s1 g2 g2e => ?_)
  · have f5 : In 0 59 (sI s1 57 30) := by rw [g2e 57 30 (by omega)]; exact hx_57_30
    have f6 : In 1 1 (sI s1 89 x1.toNatClampNeg) := by rw [g2e 89 x1.toNatClampNeg (by omega)]; exact hx_89_x1
    refine r_ifF (by decide) ?_
    refine r_rv g2.1 h_x0 rfl ?_
    refine r_b2 (t_M_newSession g2.1 h_x0 (In_w h_x2 (by decide) (by decide)) (In_w h_x1 (by decide) (by decide)) (In_w f5 (by decide) (by decide)) (phS hfph0 g2 (by decide))) (fun v11 s8 h7 => ?_)
    obtain ⟨g9, h7r⟩ := h7
    have g10 : Rl T kw_M50 S0 0 0 T s8 := Rltrans g2 g9 (by decide +kernel)
    exact t_M_act_L137  (Int.le_trans hfph0 (by decide)) kr_FU s8 x0 x1 v11 (0 : Int32) (Rlweak g10 (by decide +kernel) (by decide) (by decide)) h_x0 (In_w h_x1 (by decide) (by decide)) (In_w h7r (by decide) (by decide)) (In_w (by decide : In 0 0 (0 : Int32)) (by decide) (by decide))  (by decide)
  · have f11 : In 0 59 (sI s1 57 30) := by rw [g2e 57 30 (by omega)]; exact hx_57_30
    have f12 : In 1 1 (sI s1 89 x1.toNatClampNeg) := by rw [g2e 89 x1.toNatClampNeg (by omega)]; exact hx_89_x1
    refine r_ifT (by decide) ?_
    exact r_some ⟨(Rlweak g2 (by decide +kernel) (by decide) (by decide)), (In_w (by decide : In 0 0 (0 : Int32)) (by decide) (by decide))⟩
theorem t_M_act_B112_3c1_4c0 {T : Nat → Nat} {S0 S : AS} (g : Rl T [] S0 0 0 T S) {x0 : Option Nat} {x1 : Int32} {x2 : Int32} (h_x0 : Tx T 100 x0) (h_x1 : In 0 59 x1) (h_x2 : In 0 5 x2) (hx_89_x1 : In 0 1 (sI S 89 x1.toNatClampNeg)) (hfph0 : Ph S0 ≤ 1100) : Ho (f_M_act_B112  S x0 x1 x2 (1 : Int32) (0 : Int32)) (fun q => Rl T kw_M50 S0 0 0 T q.2 ∧ In 0 59 q.1) := by
  unfold f_M_act_B112
  refine r_rv g.1 h_x0 rfl ?_
  refine r_mayBoth (w' := kw_M4) g h_x0 (by decide +kernel) (fun s1 g2 g2e c3 c4 => ?_) (fun s1 g2 g2e => ?_)
  · exact absurd rfl c4
  · have f5 : In 0 1 (sI s1 89 x1.toNatClampNeg) := by rw [g2e 89 x1.toNatClampNeg (by omega)]; exact hx_89_x1
    refine r_ifT (by decide) ?_
    exact r_some ⟨(Rlweak g2 (by decide +kernel) (by decide) (by decide)), (In_w (by decide : In 0 0 (0 : Int32)) (by decide) (by decide))⟩
theorem t_M_act_B112_3c0_4c0 {T : Nat → Nat} {S0 S : AS} (g : Rl T [] S0 0 0 T S) {x0 : Option Nat} {x1 : Int32} {x2 : Int32} (h_x0 : Tx T 100 x0) (hfph0 : Ph S0 ≤ 1100) : Ho (f_M_act_B112  S x0 x1 x2 (0 : Int32) (0 : Int32)) (fun q => Rl T kw_M50 S0 0 0 T q.2 ∧ In 0 59 q.1) := by
  unfold f_M_act_B112
  refine r_rv g.1 h_x0 rfl ?_
  refine r_mayBoth (w' := kw_M4) g h_x0 (by decide +kernel) (fun s1 g2 g2e c3 c4 => ?_) (fun s1 g2 g2e => ?_)
  · exact absurd rfl c3
  · refine r_ifT (by decide) ?_
    exact r_some ⟨(Rlweak g2 (by decide +kernel) (by decide) (by decide)), (In_w (by decide : In 0 0 (0 : Int32)) (by decide) (by decide))⟩
theorem t_M_act_B111_3c1 {T : Nat → Nat} {S0 S : AS} (g : Rl T [] S0 0 0 T S) {x0 : Option Nat} {x1 : Int32} {x2 : Int32} (h_x0 : Tx T 100 x0) (h_x1 : In 0 59 x1) (h_x2 : In 0 5 x2) (hx_89_x1 : In 0 1 (sI S 89 x1.toNatClampNeg)) (hfph0 : Ph S0 ≤ 1100) : Ho (f_M_act_B111  S x0 x1 x2 (1 : Int32)) (fun q => Rl T kw_M50 S0 0 0 T q.2 ∧ In 0 59 q.1) := by
  unfold f_M_act_B111
  exact t_M_act_B112_3c1_4c0 (Rlweak g (by decide +kernel) (by decide) (by decide))  h_x0 (In_w h_x1 (by decide) (by decide)) (In_w h_x2 (by decide) (by decide)) (In_w hx_89_x1 (by decide) (by decide)) (Int.le_trans hfph0 (by decide))
theorem t_M_act_B111_3c0 {T : Nat → Nat} {S0 S : AS} (g : Rl T [] S0 0 0 T S) {x0 : Option Nat} {x1 : Int32} {x2 : Int32} (h_x0 : Tx T 100 x0) (hfph0 : Ph S0 ≤ 1100) : Ho (f_M_act_B111  S x0 x1 x2 (0 : Int32)) (fun q => Rl T kw_M50 S0 0 0 T q.2 ∧ In 0 59 q.1) := by
  unfold f_M_act_B111
  exact t_M_act_B112_3c0_4c0 (Rlweak g (by decide +kernel) (by decide) (by decide))  h_x0 (Int.le_trans hfph0 (by decide))
theorem t_M_act_B72_3c1_4c1 {T : Nat → Nat} {S0 S : AS} (g : Rl T [] S0 0 0 T S) {x0 : Option Nat} {x1 : Int32} {x2 : Int32} (h_x0 : Tx T 100 x0) (h_x1 : In 0 59 x1) (h_x2 : In 0 5 x2) (hx_89_x1 : In 1 1 (sI S 89 x1.toNatClampNeg)) (hfph0 : Ph S0 ≤ 1100) : Ho (f_M_act_B72  S x0 x1 x2 (1 : Int32) (1 : Int32)) (fun q => Rl T kw_M50 S0 0 0 T q.2 ∧ In 0 59 q.1) := by
  unfold f_M_act_B72
  refine r_ifF (by decide) ?_
  refine r_gR g.1 h_x0 rfl rfl (fun v12 h1 => ?_)
  refine r_aIs g.1 h1 rfl (p := 85) rfl rfl (In_w h_x1 (by decide) (by decide) : In 0 59 x1) (by decide) (fun v13 b2 e3 => ?_)
  have q4 : In 0 5 v13 := b2 _ _ rfl
  refine r_if (fun c5 => ?_) (fun c5 => ?_)
  · exact t_M_act_B111_3c1 (Rlweak g (by decide +kernel) (by decide) (by decide))  h_x0 (In_w h_x1 (by decide) (by decide)) (In_w h_x2 (by decide) (by decide)) (In_w hx_89_x1 (by decide) (by decide)) (Int.le_trans hfph0 (by decide))
  · refine r_gR g.1 h_x0 rfl rfl (fun v14 h6 => ?_)
    refine r_aIs g.1 h6 rfl (p := 64) rfl rfl (In_w h_x2 (by decide) (by decide) : In 0 5 x2) (by decide) (fun v15 b7 e8 => ?_)
    have q9 : In 0 1 v15 := b7 _ _ rfl
    refine r_if (fun c10 => ?_) (fun c10 => ?_)
    · have q11 : In 0 0 v15 := In_w (In_eq c10 (by decide : In 0 0 (0 : Int32))) (by decide) (by decide)
      refine r_gIs g.1 h_x0 rfl (p := 57) rfl (fun v16 b12 e13 => ?_)
      have q14 : In 0 60 v16 := b12 _ _ rfl
      refine r_if (fun c15 => ?_) (fun c15 => ?_)
      · have q16 : In 60 60 v16 := In_w (In_le2 c15 (by decide : In 60 60 (60 : Int32)) q14) (by decide) (by decide)
        exact t_M_act_B111_3c1 (Rlweak g (by decide +kernel) (by decide) (by decide))  h_x0 (In_w h_x1 (by decide) (by decide)) (In_w h_x2 (by decide) (by decide)) (In_w hx_89_x1 (by decide) (by decide)) (Int.le_trans hfph0 (by decide))
      · have q17 : In 0 59 v16 := In_w (In_lt1 (Int32.not_le.mp c15) q14 (by decide : In 60 60 (60 : Int32))) (by decide) (by decide)
        exact t_M_act_B112_3c1_4c1 (Rlweak g (by decide +kernel) (by decide) (by decide))  h_x0 (In_w h_x1 (by decide) (by decide)) (In_w h_x2 (by decide) (by decide)) (In_w (In_cell e13 q17) (by decide) (by decide)) (In_w hx_89_x1 (by decide) (by decide)) (Int.le_trans hfph0 (by decide))
    · have q18 : In 1 1 v15 := In_w (In_neL c10 q9 (by decide)) (by decide) (by decide)
      exact t_M_act_B111_3c1 (Rlweak g (by decide +kernel) (by decide) (by decide))  h_x0 (In_w h_x1 (by decide) (by decide)) (In_w h_x2 (by decide) (by decide)) (In_w hx_89_x1 (by decide) (by decide)) (Int.le_trans hfph0 (by decide))
theorem t_M_act_B72_3c1_4c0 {T : Nat → Nat} {S0 S : AS} (g : Rl T [] S0 0 0 T S) {x0 : Option Nat} {x1 : Int32} {x2 : Int32} (h_x0 : Tx T 100 x0) (h_x1 : In 0 59 x1) (h_x2 : In 0 5 x2) (hx_89_x1 : In 0 1 (sI S 89 x1.toNatClampNeg)) (hfph0 : Ph S0 ≤ 1100) : Ho (f_M_act_B72  S x0 x1 x2 (1 : Int32) (0 : Int32)) (fun q => Rl T kw_M50 S0 0 0 T q.2 ∧ In 0 59 q.1) := by
  unfold f_M_act_B72
  refine r_ifT (by decide) ?_
  exact t_M_act_B111_3c1 (Rlweak g (by decide +kernel) (by decide) (by decide))  h_x0 (In_w h_x1 (by decide) (by decide)) (In_w h_x2 (by decide) (by decide)) (In_w hx_89_x1 (by decide) (by decide)) (Int.le_trans hfph0 (by decide))
theorem t_M_act_B72_3c0_4c0 {T : Nat → Nat} {S0 S : AS} (g : Rl T [] S0 0 0 T S) {x0 : Option Nat} {x1 : Int32} {x2 : Int32} (h_x0 : Tx T 100 x0) (hfph0 : Ph S0 ≤ 1100) : Ho (f_M_act_B72  S x0 x1 x2 (0 : Int32) (0 : Int32)) (fun q => Rl T kw_M50 S0 0 0 T q.2 ∧ In 0 59 q.1) := by
  unfold f_M_act_B72
  refine r_ifT (by decide) ?_
  exact t_M_act_B111_3c0 (Rlweak g (by decide +kernel) (by decide) (by decide))  h_x0 (Int.le_trans hfph0 (by decide))
theorem t_M_act_B71_3c1 {T : Nat → Nat} {S0 S : AS} (g : Rl T [] S0 0 0 T S) {x0 : Option Nat} {x1 : Int32} {x2 : Int32} (h_x0 : Tx T 100 x0) (h_x1 : In 0 59 x1) (h_x2 : In 0 5 x2) (hx_89_x1 : In 0 1 (sI S 89 x1.toNatClampNeg)) (hfph0 : Ph S0 ≤ 1100) : Ho (f_M_act_B71  S x0 x1 x2 (1 : Int32)) (fun q => Rl T kw_M50 S0 0 0 T q.2 ∧ In 0 59 q.1) := by
  unfold f_M_act_B71
  exact t_M_act_B72_3c1_4c0 (Rlweak g (by decide +kernel) (by decide) (by decide))  h_x0 (In_w h_x1 (by decide) (by decide)) (In_w h_x2 (by decide) (by decide)) (In_w hx_89_x1 (by decide) (by decide)) (Int.le_trans hfph0 (by decide))
theorem t_M_act_B71_3c0 {T : Nat → Nat} {S0 S : AS} (g : Rl T [] S0 0 0 T S) {x0 : Option Nat} {x1 : Int32} {x2 : Int32} (h_x0 : Tx T 100 x0) (hfph0 : Ph S0 ≤ 1100) : Ho (f_M_act_B71  S x0 x1 x2 (0 : Int32)) (fun q => Rl T kw_M50 S0 0 0 T q.2 ∧ In 0 59 q.1) := by
  unfold f_M_act_B71
  exact t_M_act_B72_3c0_4c0 (Rlweak g (by decide +kernel) (by decide) (by decide))  h_x0 (Int.le_trans hfph0 (by decide))
theorem t_M_act_B20_3c1 {T : Nat → Nat} {S0 S : AS} (g : Rl T [] S0 0 0 T S) {x0 : Option Nat} {x1 : Int32} {x2 : Int32} (h_x0 : Tx T 100 x0) (h_x1 : In 0 59 x1) (h_x2 : In 0 5 x2) (hfph0 : Ph S0 ≤ 1100) : Ho (f_M_act_B20  S x0 x1 x2 (1 : Int32)) (fun q => Rl T kw_M50 S0 0 0 T q.2 ∧ In 0 59 q.1) := by
  unfold f_M_act_B20
  refine r_ifF (by decide) ?_
  refine r_gR g.1 h_x0 rfl rfl (fun v17 h1 => ?_)
  refine r_aIs g.1 h1 rfl (p := 89) rfl rfl (In_w h_x1 (by decide) (by decide) : In 0 59 x1) (by decide) (fun v18 b2 e3 => ?_)
  have q4 : In 0 1 v18 := b2 _ _ rfl
  refine r_if (fun c5 => ?_) (fun c5 => ?_)
  · have q6 : In 0 0 v18 := In_w (In_eq c5 (by decide : In 0 0 (0 : Int32))) (by decide) (by decide)
    exact t_M_act_B71_3c1 (Rlweak g (by decide +kernel) (by decide) (by decide))  h_x0 (In_w h_x1 (by decide) (by decide)) (In_w h_x2 (by decide) (by decide)) (In_w (In_cell e3 q6) (by decide) (by decide)) (Int.le_trans hfph0 (by decide))
  · have q7 : In 1 1 v18 := In_w (In_neL c5 q4 (by decide)) (by decide) (by decide)
    refine r_gR g.1 h_x0 rfl rfl (fun v19 h8 => ?_)
    refine r_aIs g.1 h8 rfl (p := 88) rfl rfl (In_w h_x1 (by decide) (by decide) : In 0 59 x1) (by decide) (fun v20 b9 e10 => ?_)
    have q11 : In (-1) 59 v20 := b9 _ _ rfl
    refine r_if (fun c12 => ?_) (fun c12 => ?_)
    · have q13 : In (-1) (-1) v20 := In_w (In_eq c12 (by decide : In (-1) (-1) (-1 : Int32))) (by decide) (by decide)
      refine r_rv g.1 h_x0 rfl ?_
      refine r_P (P := fun v => True) (t_M_levelNow g.1 h_x0 (In_w h_x1 (by decide) (by decide))) (fun v23 h14 => ?_)
      refine r_if (fun c15 => ?_) (fun c15 => ?_)
      · have q16 : In (-2147483648) 2 v23 := In_w (In_lt1 c15 (In_top v23) (by decide : In 3 3 (3 : Int32))) (by decide) (by decide)
        exact t_M_act_B71_3c1 (Rlweak g (by decide +kernel) (by decide) (by decide))  h_x0 (In_w h_x1 (by decide) (by decide)) (In_w h_x2 (by decide) (by decide)) (In_w (In_cell e3 q7) (by decide) (by decide)) (Int.le_trans hfph0 (by decide))
      · have q17 : In 3 2147483647 v23 := In_w (In_le2 (Int32.not_lt.mp c15) (by decide : In 3 3 (3 : Int32)) (In_top v23)) (by decide) (by decide)
        refine r_gR g.1 h_x0 rfl rfl (fun v24 h18 => ?_)
        refine r_gR g.1 h_x0 rfl rfl (fun v25 h19 => ?_)
        refine r_aIs g.1 h19 rfl (p := 85) rfl rfl (In_w h_x1 (by decide) (by decide) : In 0 59 x1) (by decide) (fun v26 b20 e21 => ?_)
        have q22 : In 0 5 v26 := b20 _ _ rfl
        refine r_aIs g.1 h18 rfl (p := 65) rfl rfl (In_w q22 (by decide) (by decide) : In 0 5 v26) (by decide) (fun v27 b23 e24 => ?_)
        have q25 : In 0 1 v27 := b23 _ _ rfl
        refine r_if (fun c26 => ?_) (fun c26 => ?_)
        · have q27 : In 0 0 v27 := In_w (In_eq c26 (by decide : In 0 0 (0 : Int32))) (by decide) (by decide)
          exact t_M_act_B71_3c1 (Rlweak g (by decide +kernel) (by decide) (by decide))  h_x0 (In_w h_x1 (by decide) (by decide)) (In_w h_x2 (by decide) (by decide)) (In_w (In_cell e3 q7) (by decide) (by decide)) (Int.le_trans hfph0 (by decide))
        · have q28 : In 1 1 v27 := In_w (In_neL c26 q25 (by decide)) (by decide) (by decide)
          exact t_M_act_B72_3c1_4c1 (Rlweak g (by decide +kernel) (by decide) (by decide))  h_x0 (In_w h_x1 (by decide) (by decide)) (In_w h_x2 (by decide) (by decide)) (In_w (In_cell e3 q7) (by decide) (by decide)) (Int.le_trans hfph0 (by decide))
    · have q29 : In 0 59 v20 := In_w (In_neL c12 q11 (by decide)) (by decide) (by decide)
      exact t_M_act_B71_3c1 (Rlweak g (by decide +kernel) (by decide) (by decide))  h_x0 (In_w h_x1 (by decide) (by decide)) (In_w h_x2 (by decide) (by decide)) (In_w (In_cell e3 q7) (by decide) (by decide)) (Int.le_trans hfph0 (by decide))
theorem t_M_act_B20_3c0 {T : Nat → Nat} {S0 S : AS} (g : Rl T [] S0 0 0 T S) {x0 : Option Nat} {x1 : Int32} {x2 : Int32} (h_x0 : Tx T 100 x0) (hfph0 : Ph S0 ≤ 1100) : Ho (f_M_act_B20  S x0 x1 x2 (0 : Int32)) (fun q => Rl T kw_M50 S0 0 0 T q.2 ∧ In 0 59 q.1) := by
  unfold f_M_act_B20
  refine r_ifT (by decide) ?_
  exact t_M_act_B71_3c0 (Rlweak g (by decide +kernel) (by decide) (by decide))  h_x0 (Int.le_trans hfph0 (by decide))
theorem t_M_act_B19 {T : Nat → Nat} {S0 S : AS} (g : Rl T [] S0 0 0 T S) {x0 : Option Nat} {x1 : Int32} {x2 : Int32} (h_x0 : Tx T 100 x0) (hfph0 : Ph S0 ≤ 1100) : Ho (f_M_act_B19  S x0 x1 x2) (fun q => Rl T kw_M50 S0 0 0 T q.2 ∧ In 0 59 q.1) := by
  unfold f_M_act_B19
  exact t_M_act_B20_3c0 (Rlweak g (by decide +kernel) (by decide) (by decide))  h_x0 (Int.le_trans hfph0 (by decide))
theorem t_M_act {T : Nat → Nat} {S : AS} (hT : TI T S) {a0 : Option Nat} {a1 : Int32} {a2 : Int32} (h_a0 : Tx T 100 a0) (hfph0 : Ph S ≤ 1100) : Ho (f_M_act  S a0 a1 a2) (fun q => Rl T kw_M50 S 0 0 T q.2 ∧ In 0 59 q.1) := by
  have g0 := Rlrf hT
  unfold f_M_act
  refine r_rv g0.1 h_a0 rfl ?_
  refine r_spl (u_isSession g0.1 h_a0) (fun q1 => ?_) ?_
  · have q2 : In 0 59 a1 := In_w q1.1 (by decide) (by decide)
    refine r_ifF (by decide) ?_
    refine r_spl (u_isSix _ _) (fun q3 => ?_) ?_
    · have q4 : In 0 5 a2 := In_w q3 (by decide) (by decide)
      refine r_ifF (by decide) ?_
      exact t_M_act_B20_3c1 (Rlweak g0 (by decide +kernel) (by decide) (by decide))  h_a0 (In_w q2 (by decide) (by decide)) (In_w q4 (by decide) (by decide)) (Int.le_trans hfph0 (by decide))
    · refine r_ifT (by decide) ?_
      exact t_M_act_B19 (Rlweak g0 (by decide +kernel) (by decide) (by decide))  h_a0 (Int.le_trans hfph0 (by decide))
  · refine r_ifT (by decide) ?_
    exact t_M_act_B19 (Rlweak g0 (by decide +kernel) (by decide) (by decide))  h_a0 (Int.le_trans hfph0 (by decide))
theorem t_M_consent_B53_3c4_4c6 {T : Nat → Nat} {S0 S : AS} (g : Rl T kw_M4 S0 0 0 T S) {x0 : Option Nat} {x2 : Int32} {x3 : Int32} (h_x0 : Tx T 100 x0) (h_x2 : In 0 3 x2) (h_x3 : In 0 15 x3) : Ho (f_M_consent_B53  S x0 x2 x3 (4 : Int32) (6 : Int32)) (fun q => Rl T kw_M51 S0 0 0 T q.2 ∧ True) := by
  unfold f_M_consent_B53
  refine r_val ?_
  generalize ei1 : (((4 : Int32) * (6 : Int32)) + x2) = i1
  have qi1 : In 24 27 i1 := by rw [← ei1]; exact (In_w (In_add (In_w (In_mulc (k := 4) (by decide : In 6 6 (6 : Int32)) (by decide) (by decide) (by decide) (by decide)) (by decide) (by decide) : In 24 24 ((4 : Int32) * (6 : Int32))) h_x2 (by decide) (by decide)) (by decide) (by decide) : In 24 27 (((4 : Int32) * (6 : Int32)) + x2))
  refine r_gR g.1 h_x0 rfl rfl (fun v2 h1 => ?_)
  refine r_aIs g.1 h1 rfl (p := 91) rfl rfl (In_w qi1 (by decide) (by decide) : In 0 27 i1) (by decide) (fun v3 b2 e3 => ?_)
  refine r_bIs (w' := kw_M51) g h1 rfl (p := 91) rfl rfl (In_w qi1 (by decide) (by decide) : In 0 27 i1) (by decide) (fun _ _ _ q => by cases q) (fun _ => rfl) (by decide) (by decide +kernel) (fun _ => by unfold phc; omega) (fun s4 g5 e6 => ?_)
  refine r_gR g5.1 h_x0 rfl rfl (fun v5 h7 => ?_)
  refine r_aIs g5.1 h7 rfl (p := 91) rfl rfl (In_w qi1 (by decide) (by decide) : In 0 27 i1) (by decide) (fun v6 b8 e9 => ?_)
  exact r_some ⟨(Rlweak g5 (by decide +kernel) (by decide) (by decide)), trivial⟩
theorem t_M_consent_B53_3c4 {T : Nat → Nat} {S0 S : AS} (g : Rl T kw_M4 S0 0 0 T S) {x0 : Option Nat} {x2 : Int32} {x3 : Int32} {y1 : Int32} (h_x0 : Tx T 100 x0) (h_x2 : In 0 3 x2) (h_x3 : In 0 15 x3) (h_y1 : In 0 5 y1) : Ho (f_M_consent_B53  S x0 x2 x3 (4 : Int32) y1) (fun q => Rl T kw_M51 S0 0 0 T q.2 ∧ True) := by
  unfold f_M_consent_B53
  refine r_val ?_
  generalize ei1 : (((4 : Int32) * y1) + x2) = i1
  have qi1 : In 0 23 i1 := by rw [← ei1]; exact (In_w (In_add (In_w (In_mulc (k := 4) h_y1 (by decide) (by decide) (by decide) (by decide)) (by decide) (by decide) : In 0 20 ((4 : Int32) * y1)) h_x2 (by decide) (by decide)) (by decide) (by decide) : In 0 23 (((4 : Int32) * y1) + x2))
  refine r_gR g.1 h_x0 rfl rfl (fun v2 h1 => ?_)
  refine r_aIs g.1 h1 rfl (p := 91) rfl rfl (In_w qi1 (by decide) (by decide) : In 0 23 i1) (by decide) (fun v3 b2 e3 => ?_)
  refine r_bIs (w' := kw_M51) g h1 rfl (p := 91) rfl rfl (In_w qi1 (by decide) (by decide) : In 0 23 i1) (by decide) (fun _ _ _ q => by cases q) (fun _ => rfl) (by decide) (by decide +kernel) (fun _ => by unfold phc; omega) (fun s4 g5 e6 => ?_)
  refine r_gR g5.1 h_x0 rfl rfl (fun v5 h7 => ?_)
  refine r_aIs g5.1 h7 rfl (p := 91) rfl rfl (In_w qi1 (by decide) (by decide) : In 0 23 i1) (by decide) (fun v6 b8 e9 => ?_)
  exact r_some ⟨(Rlweak g5 (by decide +kernel) (by decide) (by decide)), trivial⟩
theorem t_M_consent_B21_4c1 {T : Nat → Nat} {S0 S : AS} (g : Rl T [] S0 0 0 T S) {x0 : Option Nat} {x1 : Int32} {x2 : Int32} {x3 : Int32} (h_x0 : Tx T 100 x0) (h_x1 : In (-1) 5 x1) (h_x2 : In 0 3 x2) : Ho (f_M_consent_B21  S x0 x1 x2 x3 (1 : Int32)) (fun q => Rl T kw_M51 S0 0 0 T q.2 ∧ True) := by
  unfold f_M_consent_B21
  refine r_Mi (fun p1 p1b => ?_) ?_
  · have q2 : In 0 2147483647 x3 := In_w (In_le2 p1 (by decide : In 0 0 (0 : Int32)) (In_top x3)) (by decide) (by decide)
    have q3 : In 0 15 x3 := In_w (In_le1 p1b q2 (by decide : In 15 15 (15 : Int32))) (by decide) (by decide)
    refine r_rv g.1 h_x0 rfl ?_
    refine r_mayBoth (w' := kw_M4) g h_x0 (by decide +kernel) (fun s4 g5 g5e c6 c7 => ?_) (fun s4 g5 g5e => ?_)
    · refine r_ifF (by decide) ?_
      refine r_if (fun c8 => ?_) (fun c8 => ?_)
      · have q9 : In (-1) (-1) x1 := In_w (In_eq c8 (by decide : In (-1) (-1) (-1 : Int32))) (by decide) (by decide)
        exact t_M_consent_B53_3c4_4c6 (Rlweak g5 (by decide +kernel) (by decide) (by decide))  h_x0 (In_w h_x2 (by decide) (by decide)) (In_w q3 (by decide) (by decide)) 
      · have q10 : In 0 5 x1 := In_w (In_neL c8 h_x1 (by decide)) (by decide) (by decide)
        exact t_M_consent_B53_3c4 (Rlweak g5 (by decide +kernel) (by decide) (by decide))  h_x0 (In_w h_x2 (by decide) (by decide)) (In_w q3 (by decide) (by decide)) (In_w q10 (by decide) (by decide)) 
    · refine r_ifT (by decide) ?_
      exact r_some ⟨(Rlweak g5 (by decide +kernel) (by decide) (by decide)), trivial⟩
  · refine r_rv g.1 h_x0 rfl ?_
    refine r_mayBoth (w' := kw_M4) g h_x0 (by decide +kernel) (fun s11 g12 g12e c13 c14 => ?_) (fun s11 g12 g12e => ?_)
    · exact absurd rfl c14
    · refine r_ifT (by decide) ?_
      exact r_some ⟨(Rlweak g12 (by decide +kernel) (by decide) (by decide)), trivial⟩
theorem t_M_consent_B21_4c0 {T : Nat → Nat} {S0 S : AS} (g : Rl T [] S0 0 0 T S) {x0 : Option Nat} {x1 : Int32} {x2 : Int32} {x3 : Int32} (h_x0 : Tx T 100 x0) : Ho (f_M_consent_B21  S x0 x1 x2 x3 (0 : Int32)) (fun q => Rl T kw_M51 S0 0 0 T q.2 ∧ True) := by
  unfold f_M_consent_B21
  refine r_Mi (fun p1 p1b => ?_) ?_
  · have q2 : In 0 2147483647 x3 := In_w (In_le2 p1 (by decide : In 0 0 (0 : Int32)) (In_top x3)) (by decide) (by decide)
    have q3 : In 0 15 x3 := In_w (In_le1 p1b q2 (by decide : In 15 15 (15 : Int32))) (by decide) (by decide)
    refine r_rv g.1 h_x0 rfl ?_
    refine r_mayBoth (w' := kw_M4) g h_x0 (by decide +kernel) (fun s4 g5 g5e c6 c7 => ?_) (fun s4 g5 g5e => ?_)
    · exact absurd rfl c6
    · refine r_ifT (by decide) ?_
      exact r_some ⟨(Rlweak g5 (by decide +kernel) (by decide) (by decide)), trivial⟩
  · refine r_rv g.1 h_x0 rfl ?_
    refine r_mayBoth (w' := kw_M4) g h_x0 (by decide +kernel) (fun s8 g9 g9e c10 c11 => ?_) (fun s8 g9 g9e => ?_)
    · exact absurd rfl c10
    · refine r_ifT (by decide) ?_
      exact r_some ⟨(Rlweak g9 (by decide +kernel) (by decide) (by decide)), trivial⟩
theorem t_M_consent_B20 {T : Nat → Nat} {S0 S : AS} (g : Rl T [] S0 0 0 T S) {x0 : Option Nat} {x1 : Int32} {x2 : Int32} {x3 : Int32} (h_x0 : Tx T 100 x0) : Ho (f_M_consent_B20  S x0 x1 x2 x3) (fun q => Rl T kw_M51 S0 0 0 T q.2 ∧ True) := by
  unfold f_M_consent_B20
  exact t_M_consent_B21_4c0 (Rlweak g (by decide +kernel) (by decide) (by decide))  h_x0 
theorem t_M_consent {T : Nat → Nat} {S : AS} (hT : TI T S) {a0 : Option Nat} {a1 : Int32} {a2 : Int32} {a3 : Int32} (h_a0 : Tx T 100 a0) : Ho (f_M_consent  S a0 a1 a2 a3) (fun q => Rl T kw_M51 S 0 0 T q.2 ∧ True) := by
  have g0 := Rlrf hT
  unfold f_M_consent
  refine r_Mi (fun p1 p1b => ?_) ?_
  · have q2 : In (-1) 2147483647 a1 := In_w (In_le2 p1 (by decide : In (-1) (-1) (-1 : Int32)) (In_top a1)) (by decide) (by decide)
    have q3 : In (-1) 5 a1 := In_w (In_le1 p1b q2 (by decide : In 5 5 (5 : Int32))) (by decide) (by decide)
    refine r_ifF (by decide) ?_
    refine r_spl (u_isService _ _) (fun q4 => ?_) ?_
    · have q5 : In 0 3 a2 := In_w q4 (by decide) (by decide)
      refine r_ifF (by decide) ?_
      exact t_M_consent_B21_4c1 (Rlweak g0 (by decide +kernel) (by decide) (by decide))  h_a0 (In_w q3 (by decide) (by decide)) (In_w q5 (by decide) (by decide)) 
    · refine r_ifT (by decide) ?_
      exact t_M_consent_B20 (Rlweak g0 (by decide +kernel) (by decide) (by decide))  h_a0 
  · refine r_ifT (by decide) ?_
    exact t_M_consent_B20 (Rlweak g0 (by decide +kernel) (by decide) (by decide))  h_a0 
theorem t_M_withdraw_B131 {T : Nat → Nat} {S0 S : AS} (g : Rl T kw_M52 S0 0 0 T S) {x0 : Option Nat} {x1 : Int32} {x2 : Int32} {x3 : Int32} {x4 : Int32} {k44 : AS → Option Nat → Int32 → Int32 → Int32 → Int32 → Option (Int32 × AS)} {n44 : Nat} (hk44 : ∀ (S' : AS) (z0 : Option Nat) (z1 : Int32) (z2 : Int32) (z3 : Int32) (z4 : Int32), Rl T kw_M52 S0 0 0 T S' → Tx T 100 z0 → In 0 5 z1 → In 0 3 z2 → In 0 60 z4 → (60 + 1 : Int) ≤ z4.toInt + (n44 : Int) → Ho (k44 S' z0 z1 z2 z3 z4) (fun q => Rl T kw_M52 S0 0 0 T q.2 ∧ True)) (hm44 : (60 + 1 : Int) ≤ x4.toInt + ((n44 + 1 : Nat) : Int)) (h_x0 : Tx T 100 x0) (h_x1 : In 0 5 x1) (h_x2 : In 0 3 x2) (h_x4 : In 0 59 x4) (hx_57_46 : In 1 60 (sI S 57 46)) (hfph0 : Ph S0 ≤ 1100) : Ho (f_M_withdraw_B131 k44 S x0 x1 x2 x3 x4) (fun q => Rl T kw_M52 S0 0 0 T q.2 ∧ True) := by
  unfold f_M_withdraw_B131
  refine r_val ?_
  generalize ei1 : (x4 + (1 : Int32)) = i1
  have qi1 : In 1 60 i1 := by rw [← ei1]; exact (In_w (In_add h_x4 (by decide : In 1 1 (1 : Int32)) (by decide) (by decide)) (by decide) (by decide) : In 1 60 (x4 + (1 : Int32)))
  exact hk44 S x0 x1 x2 x3 i1 (Rlweak g (by decide +kernel) (by decide) (by decide)) h_x0 (In_w h_x1 (by decide) (by decide)) (In_w h_x2 (by decide) (by decide)) (In_w qi1 (by decide) (by decide))  (by rw [← ei1, toInt_add1 h_x4 (by decide) (by decide)]; omega)
theorem t_M_withdraw_B118_4c1_6c1 {T : Nat → Nat} {S0 S : AS} (g : Rl T kw_M52 S0 0 0 T S) {x0 : Option Nat} {x1 : Int32} {x2 : Int32} {x4 : Int32} {y0 : Int32} {k44 : AS → Option Nat → Int32 → Int32 → Int32 → Int32 → Option (Int32 × AS)} {n44 : Nat} (hk44 : ∀ (S' : AS) (z0 : Option Nat) (z1 : Int32) (z2 : Int32) (z3 : Int32) (z4 : Int32), Rl T kw_M52 S0 0 0 T S' → Tx T 100 z0 → In 0 5 z1 → In 0 3 z2 → In 0 60 z4 → (60 + 1 : Int) ≤ z4.toInt + (n44 : Int) → Ho (k44 S' z0 z1 z2 z3 z4) (fun q => Rl T kw_M52 S0 0 0 T q.2 ∧ True)) (hm44 : (60 + 1 : Int) ≤ x4.toInt + ((n44 + 1 : Nat) : Int)) (h_x0 : Tx T 100 x0) (h_x1 : In 0 5 x1) (h_x2 : In 0 3 x2) (h_x4 : In 0 59 x4) (hx_57_46 : In 1 60 (sI S 57 46)) (hx_103_x4 : In 1 1 (sI S 103 x4.toNatClampNeg)) (hfph0 : Ph S0 ≤ 1100) : Ho (f_M_withdraw_B118 k44 S x0 x1 x2 x4 (1 : Int32) y0 (1 : Int32)) (fun q => Rl T kw_M52 S0 0 0 T q.2 ∧ True) := by
  unfold f_M_withdraw_B118
  refine r_val ?_
  generalize ei2 : (y0 + (1 : Int32)) = i2
  refine r_ifF (by decide) ?_
  refine r_rv g.1 h_x0 rfl ?_
  refine r_bind (t_M_endFamily g.1 h_x0 (In_w h_x4 (by decide) (by decide)) (phS hfph0 g (by decide))) (fun s1 h2 => ?_)
  have g3 : Rl T kw_M52 S0 0 0 T s1 := Rltrans g h2 (by decide +kernel)
  have f4 : In 1 60 (sI s1 57 46) := In_fr57 h2 h_x0 (by decide +kernel) hx_57_46
  exact t_M_withdraw_B131 (Rlweak g3 (by decide +kernel) (by decide) (by decide)) hk44 hm44 h_x0 (In_w h_x1 (by decide) (by decide)) (In_w h_x2 (by decide) (by decide)) (In_w h_x4 (by decide) (by decide)) (In_w f4 (by decide) (by decide)) (Int.le_trans hfph0 (by decide))
theorem t_M_withdraw_B118_4c0_6c0 {T : Nat → Nat} {S0 S : AS} (g : Rl T kw_M52 S0 0 0 T S) {x0 : Option Nat} {x1 : Int32} {x2 : Int32} {x4 : Int32} {y0 : Int32} {k44 : AS → Option Nat → Int32 → Int32 → Int32 → Int32 → Option (Int32 × AS)} {n44 : Nat} (hk44 : ∀ (S' : AS) (z0 : Option Nat) (z1 : Int32) (z2 : Int32) (z3 : Int32) (z4 : Int32), Rl T kw_M52 S0 0 0 T S' → Tx T 100 z0 → In 0 5 z1 → In 0 3 z2 → In 0 60 z4 → (60 + 1 : Int) ≤ z4.toInt + (n44 : Int) → Ho (k44 S' z0 z1 z2 z3 z4) (fun q => Rl T kw_M52 S0 0 0 T q.2 ∧ True)) (hm44 : (60 + 1 : Int) ≤ x4.toInt + ((n44 + 1 : Nat) : Int)) (h_x0 : Tx T 100 x0) (h_x1 : In 0 5 x1) (h_x2 : In 0 3 x2) (h_x4 : In 0 59 x4) (hx_57_46 : In 1 60 (sI S 57 46)) (hx_103_x4 : In 0 1 (sI S 103 x4.toNatClampNeg)) (hfph0 : Ph S0 ≤ 1100) : Ho (f_M_withdraw_B118 k44 S x0 x1 x2 x4 (0 : Int32) y0 (0 : Int32)) (fun q => Rl T kw_M52 S0 0 0 T q.2 ∧ True) := by
  unfold f_M_withdraw_B118
  refine r_val ?_
  generalize ei2 : (y0 + (0 : Int32)) = i2
  refine r_ifT (by decide) ?_
  exact t_M_withdraw_B131 (Rlweak g (by decide +kernel) (by decide) (by decide)) hk44 hm44 h_x0 (In_w h_x1 (by decide) (by decide)) (In_w h_x2 (by decide) (by decide)) (In_w h_x4 (by decide) (by decide)) (In_w hx_57_46 (by decide) (by decide)) (Int.le_trans hfph0 (by decide))
theorem t_M_withdraw_B105_5c1 {T : Nat → Nat} {S0 S : AS} (g : Rl T kw_M52 S0 0 0 T S) {x0 : Option Nat} {x1 : Int32} {x2 : Int32} {x3 : Int32} {x4 : Int32} {k44 : AS → Option Nat → Int32 → Int32 → Int32 → Int32 → Option (Int32 × AS)} {n44 : Nat} (hk44 : ∀ (S' : AS) (z0 : Option Nat) (z1 : Int32) (z2 : Int32) (z3 : Int32) (z4 : Int32), Rl T kw_M52 S0 0 0 T S' → Tx T 100 z0 → In 0 5 z1 → In 0 3 z2 → In 0 60 z4 → (60 + 1 : Int) ≤ z4.toInt + (n44 : Int) → Ho (k44 S' z0 z1 z2 z3 z4) (fun q => Rl T kw_M52 S0 0 0 T q.2 ∧ True)) (hm44 : (60 + 1 : Int) ≤ x4.toInt + ((n44 + 1 : Nat) : Int)) (h_x0 : Tx T 100 x0) (h_x1 : In 0 5 x1) (h_x2 : In 0 3 x2) (h_x4 : In 0 59 x4) (hx_57_46 : In 1 60 (sI S 57 46)) (hx_103_x4 : In 1 1 (sI S 103 x4.toNatClampNeg)) (hfph0 : Ph S0 ≤ 1100) : Ho (f_M_withdraw_B105 k44 S x0 x1 x2 x3 x4 (1 : Int32)) (fun q => Rl T kw_M52 S0 0 0 T q.2 ∧ True) := by
  unfold f_M_withdraw_B105
  refine r_ifF (by decide) ?_
  exact t_M_withdraw_B118_4c1_6c1 (Rlweak g (by decide +kernel) (by decide) (by decide)) hk44 hm44 h_x0 (In_w h_x1 (by decide) (by decide)) (In_w h_x2 (by decide) (by decide)) (In_w h_x4 (by decide) (by decide)) (In_w hx_57_46 (by decide) (by decide)) (In_w hx_103_x4 (by decide) (by decide)) (Int.le_trans hfph0 (by decide))
theorem t_M_withdraw_B105_5c0 {T : Nat → Nat} {S0 S : AS} (g : Rl T kw_M52 S0 0 0 T S) {x0 : Option Nat} {x1 : Int32} {x2 : Int32} {x3 : Int32} {x4 : Int32} {k44 : AS → Option Nat → Int32 → Int32 → Int32 → Int32 → Option (Int32 × AS)} {n44 : Nat} (hk44 : ∀ (S' : AS) (z0 : Option Nat) (z1 : Int32) (z2 : Int32) (z3 : Int32) (z4 : Int32), Rl T kw_M52 S0 0 0 T S' → Tx T 100 z0 → In 0 5 z1 → In 0 3 z2 → In 0 60 z4 → (60 + 1 : Int) ≤ z4.toInt + (n44 : Int) → Ho (k44 S' z0 z1 z2 z3 z4) (fun q => Rl T kw_M52 S0 0 0 T q.2 ∧ True)) (hm44 : (60 + 1 : Int) ≤ x4.toInt + ((n44 + 1 : Nat) : Int)) (h_x0 : Tx T 100 x0) (h_x1 : In 0 5 x1) (h_x2 : In 0 3 x2) (h_x4 : In 0 59 x4) (hx_57_46 : In 1 60 (sI S 57 46)) (hx_103_x4 : In 0 1 (sI S 103 x4.toNatClampNeg)) (hfph0 : Ph S0 ≤ 1100) : Ho (f_M_withdraw_B105 k44 S x0 x1 x2 x3 x4 (0 : Int32)) (fun q => Rl T kw_M52 S0 0 0 T q.2 ∧ True) := by
  unfold f_M_withdraw_B105
  refine r_ifT (by decide) ?_
  exact t_M_withdraw_B118_4c0_6c0 (Rlweak g (by decide +kernel) (by decide) (by decide)) hk44 hm44 h_x0 (In_w h_x1 (by decide) (by decide)) (In_w h_x2 (by decide) (by decide)) (In_w h_x4 (by decide) (by decide)) (In_w hx_57_46 (by decide) (by decide)) (In_w hx_103_x4 (by decide) (by decide)) (Int.le_trans hfph0 (by decide))
theorem t_M_withdraw_B104 {T : Nat → Nat} {S0 S : AS} (g : Rl T kw_M52 S0 0 0 T S) {x0 : Option Nat} {x1 : Int32} {x2 : Int32} {x3 : Int32} {x4 : Int32} {k44 : AS → Option Nat → Int32 → Int32 → Int32 → Int32 → Option (Int32 × AS)} {n44 : Nat} (hk44 : ∀ (S' : AS) (z0 : Option Nat) (z1 : Int32) (z2 : Int32) (z3 : Int32) (z4 : Int32), Rl T kw_M52 S0 0 0 T S' → Tx T 100 z0 → In 0 5 z1 → In 0 3 z2 → In 0 60 z4 → (60 + 1 : Int) ≤ z4.toInt + (n44 : Int) → Ho (k44 S' z0 z1 z2 z3 z4) (fun q => Rl T kw_M52 S0 0 0 T q.2 ∧ True)) (hm44 : (60 + 1 : Int) ≤ x4.toInt + ((n44 + 1 : Nat) : Int)) (h_x0 : Tx T 100 x0) (h_x1 : In 0 5 x1) (h_x2 : In 0 3 x2) (h_x4 : In 0 59 x4) (hx_57_46 : In 1 60 (sI S 57 46)) (hx_103_x4 : In 0 1 (sI S 103 x4.toNatClampNeg)) (hfph0 : Ph S0 ≤ 1100) : Ho (f_M_withdraw_B104 k44 S x0 x1 x2 x3 x4) (fun q => Rl T kw_M52 S0 0 0 T q.2 ∧ True) := by
  unfold f_M_withdraw_B104
  exact t_M_withdraw_B105_5c0 (Rlweak g (by decide +kernel) (by decide) (by decide)) hk44 hm44 h_x0 (In_w h_x1 (by decide) (by decide)) (In_w h_x2 (by decide) (by decide)) (In_w h_x4 (by decide) (by decide)) (In_w hx_57_46 (by decide) (by decide)) (In_w hx_103_x4 (by decide) (by decide)) (Int.le_trans hfph0 (by decide))
theorem t_M_withdraw_C44 {T : Nat → Nat} {S0 S : AS} (g : Rl T kw_M52 S0 0 0 T S) {x0 : Option Nat} {x1 : Int32} {x2 : Int32} {x3 : Int32} {x4 : Int32} {k44 : AS → Option Nat → Int32 → Int32 → Int32 → Int32 → Option (Int32 × AS)} {n44 : Nat} (hk44 : ∀ (S' : AS) (z0 : Option Nat) (z1 : Int32) (z2 : Int32) (z3 : Int32) (z4 : Int32), Rl T kw_M52 S0 0 0 T S' → Tx T 100 z0 → In 0 5 z1 → In 0 3 z2 → In 0 60 z4 → (60 + 1 : Int) ≤ z4.toInt + (n44 : Int) → Ho (k44 S' z0 z1 z2 z3 z4) (fun q => Rl T kw_M52 S0 0 0 T q.2 ∧ True)) (hm44 : (60 + 1 : Int) ≤ x4.toInt + ((n44 + 1 : Nat) : Int)) (h_x0 : Tx T 100 x0) (h_x1 : In 0 5 x1) (h_x2 : In 0 3 x2) (h_x4 : In 0 60 x4) (hfph0 : Ph S0 ≤ 1100) : Ho (f_M_withdraw_C44 k44 S x0 x1 x2 x3 x4) (fun q => Rl T kw_M52 S0 0 0 T q.2 ∧ True) := by
  unfold f_M_withdraw_C44
  refine r_gIs g.1 h_x0 rfl (p := 57) rfl (fun v5 b1 e2 => ?_)
  have q3 : In 0 60 v5 := b1 _ _ rfl
  refine r_if (fun c4 => ?_) (fun c4 => ?_)
  · exact r_some ⟨(Rlweak g (by decide +kernel) (by decide) (by decide)), trivial⟩
  · have q5 : In 0 59 x4 := In_w (In_lt1 (Int32.not_le.mp c4) h_x4 q3) (by decide) (by decide)
    have q6 : In 1 60 v5 := In_w (In_lt2 (Int32.not_le.mp c4) h_x4 q3) (by decide) (by decide)
    refine r_gR g.1 h_x0 rfl rfl (fun v6 h7 => ?_)
    refine r_aIs g.1 h7 rfl (p := 103) rfl rfl (In_w q5 (by decide) (by decide) : In 0 59 x4) (by decide) (fun v7 b8 e9 => ?_)
    have q10 : In 0 1 v7 := b8 _ _ rfl
    refine r_if (fun c11 => ?_) (fun c11 => ?_)
    · have q12 : In 0 0 v7 := In_w (In_eq c11 (by decide : In 0 0 (0 : Int32))) (by decide) (by decide)
      exact t_M_withdraw_B104 (Rlweak g (by decide +kernel) (by decide) (by decide)) hk44 hm44 h_x0 (In_w h_x1 (by decide) (by decide)) (In_w h_x2 (by decide) (by decide)) (In_w q5 (by decide) (by decide)) (In_w (In_cell e2 q6) (by decide) (by decide)) (In_w (In_cell e9 q12) (by decide) (by decide)) (Int.le_trans hfph0 (by decide))
    · have q13 : In 1 1 v7 := In_w (In_neL c11 q10 (by decide)) (by decide) (by decide)
      refine r_gR g.1 h_x0 rfl rfl (fun v8 h14 => ?_)
      refine r_gR g.1 h_x0 rfl rfl (fun v9 h15 => ?_)
      refine r_gR g.1 h_x0 rfl rfl (fun v10 h16 => ?_)
      refine r_aIs g.1 h16 rfl (p := 99) rfl rfl (In_w q5 (by decide) (by decide) : In 0 59 x4) (by decide) (fun v11 b17 e18 => ?_)
      have q19 : In 0 59 v11 := b17 _ _ rfl
      refine r_aIs g.1 h15 rfl (p := 93) rfl rfl (In_w q19 (by decide) (by decide) : In 0 59 v11) (by decide) (fun v12 b20 e21 => ?_)
      have q22 : In 0 59 v12 := b20 _ _ rfl
      refine r_aIs g.1 h14 rfl (p := 85) rfl rfl (In_w q22 (by decide) (by decide) : In 0 59 v12) (by decide) (fun v13 b23 e24 => ?_)
      have q25 : In 0 5 v13 := b23 _ _ rfl
      refine r_if (fun c26 => ?_) (fun c26 => ?_)
      · refine r_gR g.1 h_x0 rfl rfl (fun v14 h27 => ?_)
        refine r_gR g.1 h_x0 rfl rfl (fun v15 h28 => ?_)
        refine r_aIs g.1 h28 rfl (p := 99) rfl rfl (In_w q5 (by decide) (by decide) : In 0 59 x4) (by decide) (fun v16 b29 e30 => ?_)
        have q31 : In 0 59 v16 := b29 _ _ rfl
        refine r_aIs g.1 h27 rfl (p := 94) rfl rfl (In_w q31 (by decide) (by decide) : In 0 59 v16) (by decide) (fun v17 b32 e33 => ?_)
        have q34 : In 0 3 v17 := b32 _ _ rfl
        refine r_if (fun c35 => ?_) (fun c35 => ?_)
        · exact t_M_withdraw_B105_5c1 (Rlweak g (by decide +kernel) (by decide) (by decide)) hk44 hm44 h_x0 (In_w h_x1 (by decide) (by decide)) (In_w h_x2 (by decide) (by decide)) (In_w q5 (by decide) (by decide)) (In_w (In_cell e2 q6) (by decide) (by decide)) (In_w (In_cell e9 q13) (by decide) (by decide)) (Int.le_trans hfph0 (by decide))
        · exact t_M_withdraw_B104 (Rlweak g (by decide +kernel) (by decide) (by decide)) hk44 hm44 h_x0 (In_w h_x1 (by decide) (by decide)) (In_w h_x2 (by decide) (by decide)) (In_w q5 (by decide) (by decide)) (In_w (In_cell e2 q6) (by decide) (by decide)) (In_w (In_cell e9 q13) (by decide) (by decide)) (Int.le_trans hfph0 (by decide))
      · exact t_M_withdraw_B104 (Rlweak g (by decide +kernel) (by decide) (by decide)) hk44 hm44 h_x0 (In_w h_x1 (by decide) (by decide)) (In_w h_x2 (by decide) (by decide)) (In_w q5 (by decide) (by decide)) (In_w (In_cell e2 q6) (by decide) (by decide)) (In_w (In_cell e9 q13) (by decide) (by decide)) (Int.le_trans hfph0 (by decide))
theorem t_M_withdraw_L44 {T : Nat → Nat} {S0 : AS} (hfph0 : Ph S0 ≤ 1100) : ∀ (n : Nat) (S : AS) (x0 : Option Nat) (x1 : Int32) (x2 : Int32) (x3 : Int32) (x4 : Int32), Rl T kw_M52 S0 0 0 T S → Tx T 100 x0 → In 0 5 x1 → In 0 3 x2 → In 0 60 x4 → (60 + 1 : Int) ≤ x4.toInt + (n : Int) → Ho (f_M_withdraw_L44  n S x0 x1 x2 x3 x4) (fun q => Rl T kw_M52 S0 0 0 T q.2 ∧ True) := by
  intro n
  induction n with
  | zero =>
    intro S x0 x1 x2 x3 x4 g h_x0 h_x1 h_x2 h_x4 hm
    exact absurd hm (by have := h_x4.2; omega)
  | succ n ih =>
    intro S x0 x1 x2 x3 x4 g h_x0 h_x1 h_x2 h_x4 hm
    exact t_M_withdraw_C44 g  (fun S' z0 z1 z2 z3 z4 g' a_h_x0 a_h_x1 a_h_x2 a_h_x4 am => ih S' z0 z1 z2 z3 z4 g' a_h_x0 a_h_x1 a_h_x2 a_h_x4 am) hm h_x0 h_x1 h_x2 h_x4 hfph0
theorem t_M_withdraw_B20_3t100_4c1 {T : Nat → Nat} {S0 S : AS} (g : Rl T [] S0 0 0 T S) {x0 : Option Nat} {x1 : Int32} {x2 : Int32} {y0 : Option Nat} (h_x0 : Tx T 100 x0) (h_x1 : In 0 5 x1) (h_x2 : In 0 3 x2) (h_y0 : Tx T 100 y0) (hfph0 : Ph S0 ≤ 1100) : Ho (f_M_withdraw_B20  S x0 x1 x2 y0 (1 : Int32)) (fun q => Rl T kw_M52 S0 0 0 T q.2 ∧ True) := by
  unfold f_M_withdraw_B20
  refine r_rv g.1 h_y0 rfl ?_
  refine r_may (w' := kw_M4) g h_y0 (In_w (by decide : In 1 1 (1 : Int32)) (by decide) (by decide)) (by decide +kernel) (fun s1 g2 g2e c3 => ?_) (fun s1 g2 g2e => ?_)
  · refine r_ifF (by decide) ?_
    refine r_gR g2.1 h_x0 rfl rfl (fun v21 h4 => ?_)
    refine r_bIs (w' := kw_M51) g2 h4 rfl (p := 91) rfl rfl (In_w (In_w (In_add (In_w (In_mulc (k := 4) h_x1 (by decide) (by decide) (by decide) (by decide)) (by decide) (by decide) : In 0 20 ((4 : Int32) * x1)) h_x2 (by decide) (by decide)) (by decide) (by decide) : In 0 23 (((4 : Int32) * x1) + x2)) (by decide) (by decide) : In 0 23 (((4 : Int32) * x1) + x2)) (by decide) (fun _ _ _ q => by cases q) (fun _ => rfl) (by decide) (by decide +kernel) (fun _ => by unfold phc; omega) (fun s5 g6 e7 => ?_)
    have f8 : In 0 0 (sI s5 91 (((4 : Int32) * x1) + x2).toNatClampNeg) := In_eqw e7 (In_w (by decide : In 0 0 (0 : Int32)) (by decide) (by decide))
    exact t_M_withdraw_L44  (Int.le_trans hfph0 (by decide)) kr_FU s5 x0 x1 x2 (0 : Int32) (0 : Int32) (Rlweak g6 (by decide +kernel) (by decide) (by decide)) h_x0 (In_w h_x1 (by decide) (by decide)) (In_w h_x2 (by decide) (by decide)) (In_w (by decide : In 0 0 (0 : Int32)) (by decide) (by decide))  (by decide)
  · refine r_ifT (by decide) ?_
    exact r_some ⟨(Rlweak g2 (by decide +kernel) (by decide) (by decide)), trivial⟩
theorem t_M_withdraw_B20_3t100_4c0 {T : Nat → Nat} {S0 S : AS} (g : Rl T [] S0 0 0 T S) {x0 : Option Nat} {x1 : Int32} {x2 : Int32} {y0 : Option Nat} (h_x0 : Tx T 100 x0) (h_y0 : Tx T 100 y0) (hfph0 : Ph S0 ≤ 1100) : Ho (f_M_withdraw_B20  S x0 x1 x2 y0 (0 : Int32)) (fun q => Rl T kw_M52 S0 0 0 T q.2 ∧ True) := by
  unfold f_M_withdraw_B20
  refine r_rv g.1 h_y0 rfl ?_
  refine r_may (w' := kw_M4) g h_y0 (In_w (by decide : In 0 0 (0 : Int32)) (by decide) (by decide)) (by decide +kernel) (fun s1 g2 g2e c3 => ?_) (fun s1 g2 g2e => ?_)
  · exact absurd rfl c3
  · refine r_ifT (by decide) ?_
    exact r_some ⟨(Rlweak g2 (by decide +kernel) (by decide) (by decide)), trivial⟩
theorem t_M_withdraw_B19_3t100 {T : Nat → Nat} {S0 S : AS} (g : Rl T [] S0 0 0 T S) {x0 : Option Nat} {x1 : Int32} {x2 : Int32} {y0 : Option Nat} (h_x0 : Tx T 100 x0) (h_y0 : Tx T 100 y0) (hfph0 : Ph S0 ≤ 1100) : Ho (f_M_withdraw_B19  S x0 x1 x2 y0) (fun q => Rl T kw_M52 S0 0 0 T q.2 ∧ True) := by
  unfold f_M_withdraw_B19
  exact t_M_withdraw_B20_3t100_4c0 (Rlweak g (by decide +kernel) (by decide) (by decide))  h_x0 h_y0 (Int.le_trans hfph0 (by decide))
theorem t_M_withdraw {T : Nat → Nat} {S : AS} (hT : TI T S) {a0 : Option Nat} {a1 : Int32} {a2 : Int32} (h_a0 : Tx T 100 a0) (hfph0 : Ph S ≤ 1100) : Ho (f_M_withdraw  S a0 a1 a2) (fun q => Rl T kw_M52 S 0 0 T q.2 ∧ True) := by
  have g0 := Rlrf hT
  unfold f_M_withdraw
  refine r_spl (u_isSix _ _) (fun q1 => ?_) ?_
  · have q2 : In 0 5 a1 := In_w q1 (by decide) (by decide)
    refine r_ifF (by decide) ?_
    refine r_spl (u_isService _ _) (fun q3 => ?_) ?_
    · have q4 : In 0 3 a2 := In_w q3 (by decide) (by decide)
      refine r_ifF (by decide) ?_
      exact t_M_withdraw_B20_3t100_4c1 (Rlweak g0 (by decide +kernel) (by decide) (by decide))  h_a0 (In_w q2 (by decide) (by decide)) (In_w q4 (by decide) (by decide)) h_a0 (Int.le_trans hfph0 (by decide))
    · refine r_ifT (by decide) ?_
      exact t_M_withdraw_B19_3t100 (Rlweak g0 (by decide +kernel) (by decide) (by decide))  h_a0 h_a0 (Int.le_trans hfph0 (by decide))
  · refine r_ifT (by decide) ?_
    exact t_M_withdraw_B19_3t100 (Rlweak g0 (by decide +kernel) (by decide) (by decide))  h_a0 h_a0 (Int.le_trans hfph0 (by decide))
theorem t_M_need {T : Nat → Nat} {S : AS} (hT : TI T S) {a0 : Option Nat} {a1 : Int32} {a2 : Int32} (h_a0 : Tx T 100 a0) : Ho (f_M_need  S a0 a1 a2) (fun q => Rl T kw_M53 S 0 0 T q.2 ∧ True) := by
  have g0 := Rlrf hT
  unfold f_M_need
  refine r_spl (u_isService _ _) (fun q1 => ?_) ?_
  · have q2 : In 0 3 a1 := In_w q1 (by decide) (by decide)
    refine r_Mi (fun p3 p3b => ?_) ?_
    · have q4 : In 0 2147483647 a2 := In_w (In_le2 p3 (by decide : In 0 0 (0 : Int32)) (In_top a2)) (by decide) (by decide)
      have q5 : In 0 6 a2 := In_w (In_le1 p3b q4 (by decide : In 6 6 (6 : Int32))) (by decide) (by decide)
      refine r_rv g0.1 h_a0 rfl ?_
      refine r_mayBoth (w' := kw_M4) g0 h_a0 (by decide +kernel) (fun s6 g7 g7e c8 c9 => ?_) (fun s6 g7 g7e => ?_)
      · refine r_ifF (by decide) ?_
        refine r_gR g7.1 h_a0 rfl rfl (fun v8 h10 => ?_)
        refine r_aIs g7.1 h10 rfl (p := 92) rfl rfl (In_w q2 (by decide) (by decide) : In 0 3 a1) (by decide) (fun v9 b11 e12 => ?_)
        refine r_gR g7.1 h_a0 rfl rfl (fun v10 h13 => ?_)
        refine r_bIs (w' := kw_M53) g7 h13 rfl (p := 92) rfl rfl (In_w q2 (by decide) (by decide) : In 0 3 a1) (by decide) (fun _ _ _ q => by cases q) (fun _ => rfl) (by decide) (by decide +kernel) (fun _ => by unfold phc; omega) (fun s14 g15 e16 => ?_)
        have f17 : In 0 6 (sI s14 92 a1.toNatClampNeg) := In_eqw e16 (In_w q5 (by decide) (by decide))
        exact r_some ⟨(Rlweak g15 (by decide +kernel) (by decide) (by decide)), trivial⟩
      · refine r_ifT (by decide) ?_
        exact r_some ⟨(Rlweak g7 (by decide +kernel) (by decide) (by decide)), trivial⟩
    · refine r_rv g0.1 h_a0 rfl ?_
      refine r_mayBoth (w' := kw_M4) g0 h_a0 (by decide +kernel) (fun s18 g19 g19e c20 c21 => ?_) (fun s18 g19 g19e => ?_)
      · exact absurd rfl c21
      · refine r_ifT (by decide) ?_
        exact r_some ⟨(Rlweak g19 (by decide +kernel) (by decide) (by decide)), trivial⟩
  · refine r_Mi (fun p22 p22b => ?_) ?_
    · have q23 : In 0 2147483647 a2 := In_w (In_le2 p22 (by decide : In 0 0 (0 : Int32)) (In_top a2)) (by decide) (by decide)
      have q24 : In 0 6 a2 := In_w (In_le1 p22b q23 (by decide : In 6 6 (6 : Int32))) (by decide) (by decide)
      refine r_rv g0.1 h_a0 rfl ?_
      refine r_mayBoth (w' := kw_M4) g0 h_a0 (by decide +kernel) (fun s25 g26 g26e c27 c28 => ?_) (fun s25 g26 g26e => ?_)
      · exact absurd rfl c27
      · refine r_ifT (by decide) ?_
        exact r_some ⟨(Rlweak g26 (by decide +kernel) (by decide) (by decide)), trivial⟩
    · refine r_rv g0.1 h_a0 rfl ?_
      refine r_mayBoth (w' := kw_M4) g0 h_a0 (by decide +kernel) (fun s29 g30 g30e c31 c32 => ?_) (fun s29 g30 g30e => ?_)
      · exact absurd rfl c31
      · refine r_ifT (by decide) ?_
        exact r_some ⟨(Rlweak g30 (by decide +kernel) (by decide) (by decide)), trivial⟩
theorem t_M_authorize_B68_5t100_6c1_7c1_8c1 {T : Nat → Nat} {S0 S : AS} (g : Rl T [] S0 0 0 T S) {x0 : Option Nat} {x1 : Int32} {x2 : Int32} {x3 : Int32} {x4 : Int32} {y0 : Option Nat} (h_x0 : Tx T 100 x0) (h_x1 : In 0 59 x1) (h_x2 : In 0 3 x2) (h_x3 : In 0 3 x3) (h_x4 : In 1 15 x4) (h_y0 : Tx T 100 y0) (hx_57_39 : In 0 59 (sI S 57 39)) (hx_89_x1 : In 1 1 (sI S 89 x1.toNatClampNeg)) (hfgf0 : Gf S0 ≤ 0) : Ho (f_M_authorize_B68  S x0 x1 x2 x3 x4 y0 (1 : Int32) (1 : Int32) (1 : Int32)) (fun q => Rl T kw_M60 S0 0 0 T q.2 ∧ In (-3) 59 q.1) := by
  unfold f_M_authorize_B68
  refine r_rv g.1 h_y0 rfl ?_
  refine r_mayAll (w' := kw_M4) g h_y0 (by decide +kernel) (fun s1 g2 g2e c3 c4 c5 => ?_) (fun s1 g2 g2e => ?_)
  · have f6 : In 0 59 (sI s1 57 39) := by rw [g2e 57 39 (by omega)]; exact hx_57_39
    have f7 : In 1 1 (sI s1 89 x1.toNatClampNeg) := by rw [g2e 89 x1.toNatClampNeg (by omega)]; exact hx_89_x1
    refine r_ifF (by decide) ?_
    refine r_gR g2.1 h_x0 rfl rfl (fun v4 h8 => ?_)
    refine r_gIs g2.1 h_x0 rfl (p := 57) rfl (fun v5 b9 e10 => ?_)
    refine r_bIs (w' := kw_M45) g2 h8 rfl (p := 87) rfl rfl (In_w h_x1 (by decide) (by decide) : In 0 59 x1) (by decide) (fun _ _ _ q => by cases q) (fun _ => rfl) (by decide) (by decide +kernel) (fun _ => by unfold phc; omega) (fun s11 g12 e13 => ?_)
    have f14 : In 0 59 (sI s11 57 39) := In_ne e13 (by omega) f6
    have f15 : In 1 1 (sI s11 89 x1.toNatClampNeg) := In_ne e13 (by omega) f7
    refine r_gR g12.1 h_x0 rfl rfl (fun v7 h16 => ?_)
    refine r_gR g12.1 h_x0 rfl rfl (fun v8 h17 => ?_)
    refine r_aIs g12.1 h17 rfl (p := 85) rfl rfl (In_w h_x1 (by decide) (by decide) : In 0 59 x1) (by decide) (fun v9 b18 e19 => ?_)
    have q20 : In 0 5 v9 := b18 _ _ rfl
    refine r_aIs g12.1 h16 rfl (p := 91) rfl rfl (In_w (In_w (In_add (In_w (In_mulc (k := 4) q20 (by decide) (by decide) (by decide) (by decide)) (by decide) (by decide) : In 0 20 ((4 : Int32) * v9)) h_x2 (by decide) (by decide)) (by decide) (by decide) : In 0 23 (((4 : Int32) * v9) + x2)) (by decide) (by decide) : In 0 23 (((4 : Int32) * v9) + x2)) (by decide) (fun v10 b21 e22 => ?_)
    refine r_gR g12.1 h_x0 rfl rfl (fun v11 h23 => ?_)
    refine r_aIs g12.1 h23 rfl (p := 91) rfl rfl (In_w (In_w (In_add (by decide : In 24 24 (24 : Int32)) h_x2 (by decide) (by decide)) (by decide) (by decide) : In 24 27 ((24 : Int32) + x2)) (by decide) (by decide) : In 0 27 ((24 : Int32) + x2)) (by decide) (fun v12 b24 e25 => ?_)
    refine r_val ?_
    generalize ei13 : (v10 ||| v12) = i13
    refine r_if (fun c26 => ?_) (fun c26 => ?_)
    · refine r_rv g12.1 h_x0 rfl ?_
      refine r_P (P := fun v => True) (t_M_levelNow g12.1 h_x0 (In_w h_x1 (by decide) (by decide))) (fun v16 h27 => ?_)
      refine r_gR g12.1 h_x0 rfl rfl (fun v17 h28 => ?_)
      refine r_aIs g12.1 h28 rfl (p := 92) rfl rfl (In_w h_x3 (by decide) (by decide) : In 0 3 x3) (by decide) (fun v18 b29 e30 => ?_)
      refine r_if (fun c31 => ?_) (fun c31 => ?_)
      · refine r_gR g12.1 h_x0 rfl rfl (fun v19 h32 => ?_)
        refine r_gIs g12.1 h_x0 rfl (p := 57) rfl (fun v20 b33 e34 => ?_)
        have q35 : In 0 60 v20 := b33 _ _ rfl
        have q36 : In 0 59 v20 := In_w (In_read e34 f14) (by decide) (by decide)
        refine r_bIs (w' := kw_M54) g12 h32 rfl (p := 93) rfl rfl (In_w q36 (by decide) (by decide) : In 0 59 v20) (by decide) (fun _ _ _ q => by cases q; exact (In_w h_x1 (by decide) (by decide))) (fun _ => rfl) (by decide) (by decide +kernel) (fun _ => by unfold phc; omega) (fun s37 g38 e39 => ?_)
        have f40 : In 0 59 (sI s37 57 39) := In_ne e39 (by omega) (In_cell e34 q36)
        have f41 : In 1 1 (sI s37 89 x1.toNatClampNeg) := In_ne e39 (by omega) f15
        have f42 : In 0 59 (sI s37 93 v20.toNatClampNeg) := In_eqw e39 (In_w h_x1 (by decide) (by decide))
        refine r_gR g38.1 h_x0 rfl rfl (fun v22 h43 => ?_)
        refine r_gIs g38.1 h_x0 rfl (p := 57) rfl (fun v23 b44 e45 => ?_)
        have q46 : In 0 60 v23 := b44 _ _ rfl
        have q47 : In 0 59 v23 := In_w (In_read e45 f40) (by decide) (by decide)
        refine r_bIs (w' := kw_M55) g38 h43 rfl (p := 94) rfl rfl (In_w q47 (by decide) (by decide) : In 0 59 v23) (by decide) (fun _ _ _ q => by cases q; exact (In_w h_x2 (by decide) (by decide))) (fun _ => rfl) (by decide) (by decide +kernel) (fun _ => by unfold phc; omega) (fun s48 g49 e50 => ?_)
        have f51 : In 0 59 (sI s48 57 39) := In_ne e50 (by omega) (In_cell e45 q47)
        have f52 : In 1 1 (sI s48 89 x1.toNatClampNeg) := In_ne e50 (by omega) f41
        have f53 : In 0 59 (sI s48 93 v20.toNatClampNeg) := In_ne e50 (by omega) f42
        have f54 : In 0 3 (sI s48 94 v23.toNatClampNeg) := In_eqw e50 (In_w h_x2 (by decide) (by decide))
        refine r_gR g49.1 h_x0 rfl rfl (fun v25 h55 => ?_)
        refine r_gIs g49.1 h_x0 rfl (p := 57) rfl (fun v26 b56 e57 => ?_)
        have q58 : In 0 60 v26 := b56 _ _ rfl
        have q59 : In 0 59 v26 := In_w (In_read e57 f51) (by decide) (by decide)
        refine r_bIs (w' := kw_M56) g49 h55 rfl (p := 95) rfl rfl (In_w q59 (by decide) (by decide) : In 0 59 v26) (by decide) (fun _ _ _ q => by cases q; exact (In_w h_x3 (by decide) (by decide))) (fun _ => rfl) (by decide) (by decide +kernel) (fun _ => by unfold phc; omega) (fun s60 g61 e62 => ?_)
        have f63 : In 0 59 (sI s60 57 39) := In_ne e62 (by omega) (In_cell e57 q59)
        have f64 : In 1 1 (sI s60 89 x1.toNatClampNeg) := In_ne e62 (by omega) f52
        have f65 : In 0 59 (sI s60 93 v20.toNatClampNeg) := In_ne e62 (by omega) f53
        have f66 : In 0 3 (sI s60 94 v23.toNatClampNeg) := In_ne e62 (by omega) f54
        have f67 : In 0 3 (sI s60 95 v26.toNatClampNeg) := In_eqw e62 (In_w h_x3 (by decide) (by decide))
        refine r_gR g61.1 h_x0 rfl rfl (fun v28 h68 => ?_)
        refine r_gIs g61.1 h_x0 rfl (p := 57) rfl (fun v29 b69 e70 => ?_)
        have q71 : In 0 60 v29 := b69 _ _ rfl
        have q72 : In 0 59 v29 := In_w (In_read e70 f63) (by decide) (by decide)
        refine r_bIs (w' := kw_M57) g61 h68 rfl (p := 96) rfl rfl (In_w q72 (by decide) (by decide) : In 0 59 v29) (by decide) (fun _ _ _ q => by cases q) (fun _ => rfl) (by decide) (by decide +kernel) (fun _ => by unfold phc; omega) (fun s73 g74 e75 => ?_)
        have f76 : In 0 59 (sI s73 57 39) := In_ne e75 (by omega) (In_cell e70 q72)
        have f77 : In 1 1 (sI s73 89 x1.toNatClampNeg) := In_ne e75 (by omega) f64
        have f78 : In 0 59 (sI s73 93 v20.toNatClampNeg) := In_ne e75 (by omega) f65
        have f79 : In 0 3 (sI s73 94 v23.toNatClampNeg) := In_ne e75 (by omega) f66
        have f80 : In 0 3 (sI s73 95 v26.toNatClampNeg) := In_ne e75 (by omega) f67
        have f81 : In 1 15 (sI s73 96 v29.toNatClampNeg) := In_eqw e75 (In_w h_x4 (by decide) (by decide))
        refine r_gR g74.1 h_x0 rfl rfl (fun v31 h82 => ?_)
        refine r_gIs g74.1 h_x0 rfl (p := 57) rfl (fun v32 b83 e84 => ?_)
        have q85 : In 0 60 v32 := b83 _ _ rfl
        have q86 : In 0 59 v32 := In_w (In_read e84 f76) (by decide) (by decide)
        refine r_gIs g74.1 h_x0 rfl (p := 57) rfl (fun v33 b87 e88 => ?_)
        refine r_bIs (w' := kw_M58) g74 h82 rfl (p := 97) rfl rfl (In_w q86 (by decide) (by decide) : In 0 59 v32) (by decide) (fun _ _ _ q => by cases q) (fun _ => rfl) (by decide) (by decide +kernel) (fun _ => by unfold phc; omega) (fun s89 g90 e91 => ?_)
        have f92 : In 0 59 (sI s89 57 39) := In_ne e91 (by omega) (In_cell e84 q86)
        have f93 : In 1 1 (sI s89 89 x1.toNatClampNeg) := In_ne e91 (by omega) f77
        have f94 : In 0 59 (sI s89 93 v20.toNatClampNeg) := In_ne e91 (by omega) f78
        have f95 : In 0 3 (sI s89 94 v23.toNatClampNeg) := In_ne e91 (by omega) f79
        have f96 : In 0 3 (sI s89 95 v26.toNatClampNeg) := In_ne e91 (by omega) f80
        have f97 : In 1 15 (sI s89 96 v29.toNatClampNeg) := In_ne e91 (by omega) f81
        refine r_gR g90.1 h_x0 rfl rfl (fun v35 h98 => ?_)
        refine r_gIs g90.1 h_x0 rfl (p := 57) rfl (fun v36 b99 e100 => ?_)
        have q101 : In 0 60 v36 := b99 _ _ rfl
        have q102 : In 0 59 v36 := In_w (In_read e100 f92) (by decide) (by decide)
        refine r_codm (w' := kw_M59) g90 h98 (In_w q102 (by decide) (by decide)) (by decide +kernel) (fun s105 g106 e107 => ?_)
        have f109 : In 0 59 (sI s105 57 39) := In_ne e107 (by omega) (In_cell e100 q102)
        have f110 : In 1 1 (sI s105 89 x1.toNatClampNeg) := In_ne e107 (by omega) f93
        have f111 : In 0 59 (sI s105 93 v20.toNatClampNeg) := In_ne e107 (by omega) f94
        have f112 : In 0 3 (sI s105 94 v23.toNatClampNeg) := In_ne e107 (by omega) f95
        have f113 : In 0 3 (sI s105 95 v26.toNatClampNeg) := In_ne e107 (by omega) f96
        have f114 : In 1 15 (sI s105 96 v29.toNatClampNeg) := In_ne e107 (by omega) f97
        refine r_gIs g106.1 h_x0 rfl (p := 57) rfl (fun v38 b115 e116 => ?_)
        have q117 : In 0 60 v38 := b115 _ _ rfl
        have q118 : In 0 59 v38 := In_w (In_read e116 f109) (by decide) (by decide)
        refine r_codp (w' := kw_M60) g106 (by rw [e107]; exact g90.2.2.2.1.2.1) h_x0 (In_w q118 (by decide) (by decide)) e116 (by decide +kernel) (fun s121 g122 => ?_)
        refine r_gIs g122.1 h_x0 rfl (p := 57) rfl (fun v40 b123 e124 => ?_)
        have q125 : In 0 60 v40 := b123 _ _ rfl
        exact r_some ⟨(Rlweak g122 (by decide +kernel) (by decide) (by decide)), (In_w (In_w (In_sub q125 (by decide : In 1 1 (1 : Int32)) (by decide) (by decide)) (by decide) (by decide) : In (-1) 59 (v40 - (1 : Int32))) (by decide) (by decide))⟩
      · have q126 : In (-2147483648) 2147483646 v16 := In_w (In_lt1 (Int32.not_le.mp c31) (In_top v16) (In_top v18)) (by decide) (by decide)
        have q127 : In (-2147483647) 2147483647 v18 := In_w (In_lt2 (Int32.not_le.mp c31) (In_top v16) (In_top v18)) (by decide) (by decide)
        exact r_some ⟨(Rlweak g12 (by decide +kernel) (by decide) (by decide)), (In_w (by decide : In (-2) (-2) (-2 : Int32)) (by decide) (by decide))⟩
    · exact r_some ⟨(Rlweak g12 (by decide +kernel) (by decide) (by decide)), (In_w (by decide : In (-3) (-3) (-3 : Int32)) (by decide) (by decide))⟩
  · have f128 : In 0 59 (sI s1 57 39) := by rw [g2e 57 39 (by omega)]; exact hx_57_39
    have f129 : In 1 1 (sI s1 89 x1.toNatClampNeg) := by rw [g2e 89 x1.toNatClampNeg (by omega)]; exact hx_89_x1
    refine r_ifT (by decide) ?_
    exact r_some ⟨(Rlweak g2 (by decide +kernel) (by decide) (by decide)), (In_w (by decide : In 0 0 (0 : Int32)) (by decide) (by decide))⟩
theorem t_M_authorize_B68_5t100_6c1_7c0_8c1 {T : Nat → Nat} {S0 S : AS} (g : Rl T [] S0 0 0 T S) {x0 : Option Nat} {x1 : Int32} {x2 : Int32} {x3 : Int32} {x4 : Int32} {y0 : Option Nat} (h_x0 : Tx T 100 x0) (h_x1 : In 0 59 x1) (h_x2 : In 0 3 x2) (h_x3 : In 0 3 x3) (h_y0 : Tx T 100 y0) (hx_57_39 : In 0 59 (sI S 57 39)) (hx_89_x1 : In 1 1 (sI S 89 x1.toNatClampNeg)) (hfgf0 : Gf S0 ≤ 0) : Ho (f_M_authorize_B68  S x0 x1 x2 x3 x4 y0 (1 : Int32) (0 : Int32) (1 : Int32)) (fun q => Rl T kw_M60 S0 0 0 T q.2 ∧ In (-3) 59 q.1) := by
  unfold f_M_authorize_B68
  refine r_rv g.1 h_y0 rfl ?_
  refine r_mayAll (w' := kw_M4) g h_y0 (by decide +kernel) (fun s1 g2 g2e c3 c4 c5 => ?_) (fun s1 g2 g2e => ?_)
  · exact absurd rfl c4
  · have f6 : In 0 59 (sI s1 57 39) := by rw [g2e 57 39 (by omega)]; exact hx_57_39
    have f7 : In 1 1 (sI s1 89 x1.toNatClampNeg) := by rw [g2e 89 x1.toNatClampNeg (by omega)]; exact hx_89_x1
    refine r_ifT (by decide) ?_
    exact r_some ⟨(Rlweak g2 (by decide +kernel) (by decide) (by decide)), (In_w (by decide : In 0 0 (0 : Int32)) (by decide) (by decide))⟩
theorem t_M_authorize_B68_5t100_6c1_7c1_8c0 {T : Nat → Nat} {S0 S : AS} (g : Rl T [] S0 0 0 T S) {x0 : Option Nat} {x1 : Int32} {x2 : Int32} {x3 : Int32} {x4 : Int32} {y0 : Option Nat} (h_x0 : Tx T 100 x0) (h_x1 : In 0 59 x1) (h_x2 : In 0 3 x2) (h_x3 : In 0 3 x3) (h_x4 : In 1 15 x4) (h_y0 : Tx T 100 y0) (hx_89_x1 : In 0 1 (sI S 89 x1.toNatClampNeg)) (hfgf0 : Gf S0 ≤ 0) : Ho (f_M_authorize_B68  S x0 x1 x2 x3 x4 y0 (1 : Int32) (1 : Int32) (0 : Int32)) (fun q => Rl T kw_M60 S0 0 0 T q.2 ∧ In (-3) 59 q.1) := by
  unfold f_M_authorize_B68
  refine r_rv g.1 h_y0 rfl ?_
  refine r_mayAll (w' := kw_M4) g h_y0 (by decide +kernel) (fun s1 g2 g2e c3 c4 c5 => ?_) (fun s1 g2 g2e => ?_)
  · exact absurd rfl c5
  · have f6 : In 0 1 (sI s1 89 x1.toNatClampNeg) := by rw [g2e 89 x1.toNatClampNeg (by omega)]; exact hx_89_x1
    refine r_ifT (by decide) ?_
    exact r_some ⟨(Rlweak g2 (by decide +kernel) (by decide) (by decide)), (In_w (by decide : In 0 0 (0 : Int32)) (by decide) (by decide))⟩
theorem t_M_authorize_B68_5t100_6c1_7c0_8c0 {T : Nat → Nat} {S0 S : AS} (g : Rl T [] S0 0 0 T S) {x0 : Option Nat} {x1 : Int32} {x2 : Int32} {x3 : Int32} {x4 : Int32} {y0 : Option Nat} (h_x0 : Tx T 100 x0) (h_x1 : In 0 59 x1) (h_x2 : In 0 3 x2) (h_x3 : In 0 3 x3) (h_y0 : Tx T 100 y0) (hx_89_x1 : In 0 1 (sI S 89 x1.toNatClampNeg)) (hfgf0 : Gf S0 ≤ 0) : Ho (f_M_authorize_B68  S x0 x1 x2 x3 x4 y0 (1 : Int32) (0 : Int32) (0 : Int32)) (fun q => Rl T kw_M60 S0 0 0 T q.2 ∧ In (-3) 59 q.1) := by
  unfold f_M_authorize_B68
  refine r_rv g.1 h_y0 rfl ?_
  refine r_mayAll (w' := kw_M4) g h_y0 (by decide +kernel) (fun s1 g2 g2e c3 c4 c5 => ?_) (fun s1 g2 g2e => ?_)
  · exact absurd rfl c4
  · have f6 : In 0 1 (sI s1 89 x1.toNatClampNeg) := by rw [g2e 89 x1.toNatClampNeg (by omega)]; exact hx_89_x1
    refine r_ifT (by decide) ?_
    exact r_some ⟨(Rlweak g2 (by decide +kernel) (by decide) (by decide)), (In_w (by decide : In 0 0 (0 : Int32)) (by decide) (by decide))⟩
theorem t_M_authorize_B68_5t100_6c0_7c1_8c0 {T : Nat → Nat} {S0 S : AS} (g : Rl T [] S0 0 0 T S) {x0 : Option Nat} {x1 : Int32} {x2 : Int32} {x3 : Int32} {x4 : Int32} {y0 : Option Nat} (h_x0 : Tx T 100 x0) (h_x4 : In 1 15 x4) (h_y0 : Tx T 100 y0) (hfgf0 : Gf S0 ≤ 0) : Ho (f_M_authorize_B68  S x0 x1 x2 x3 x4 y0 (0 : Int32) (1 : Int32) (0 : Int32)) (fun q => Rl T kw_M60 S0 0 0 T q.2 ∧ In (-3) 59 q.1) := by
  unfold f_M_authorize_B68
  refine r_rv g.1 h_y0 rfl ?_
  refine r_mayAll (w' := kw_M4) g h_y0 (by decide +kernel) (fun s1 g2 g2e c3 c4 c5 => ?_) (fun s1 g2 g2e => ?_)
  · exact absurd rfl c3
  · refine r_ifT (by decide) ?_
    exact r_some ⟨(Rlweak g2 (by decide +kernel) (by decide) (by decide)), (In_w (by decide : In 0 0 (0 : Int32)) (by decide) (by decide))⟩
theorem t_M_authorize_B68_5t100_6c0_7c0_8c0 {T : Nat → Nat} {S0 S : AS} (g : Rl T [] S0 0 0 T S) {x0 : Option Nat} {x1 : Int32} {x2 : Int32} {x3 : Int32} {x4 : Int32} {y0 : Option Nat} (h_x0 : Tx T 100 x0) (h_y0 : Tx T 100 y0) (hfgf0 : Gf S0 ≤ 0) : Ho (f_M_authorize_B68  S x0 x1 x2 x3 x4 y0 (0 : Int32) (0 : Int32) (0 : Int32)) (fun q => Rl T kw_M60 S0 0 0 T q.2 ∧ In (-3) 59 q.1) := by
  unfold f_M_authorize_B68
  refine r_rv g.1 h_y0 rfl ?_
  refine r_mayAll (w' := kw_M4) g h_y0 (by decide +kernel) (fun s1 g2 g2e c3 c4 c5 => ?_) (fun s1 g2 g2e => ?_)
  · exact absurd rfl c3
  · refine r_ifT (by decide) ?_
    exact r_some ⟨(Rlweak g2 (by decide +kernel) (by decide) (by decide)), (In_w (by decide : In 0 0 (0 : Int32)) (by decide) (by decide))⟩
theorem t_M_authorize_B67_5t100_6c1_7c1 {T : Nat → Nat} {S0 S : AS} (g : Rl T [] S0 0 0 T S) {x0 : Option Nat} {x1 : Int32} {x2 : Int32} {x3 : Int32} {x4 : Int32} {y0 : Option Nat} (h_x0 : Tx T 100 x0) (h_x1 : In 0 59 x1) (h_x2 : In 0 3 x2) (h_x3 : In 0 3 x3) (h_x4 : In 1 15 x4) (h_y0 : Tx T 100 y0) (hx_89_x1 : In 0 1 (sI S 89 x1.toNatClampNeg)) (hfgf0 : Gf S0 ≤ 0) : Ho (f_M_authorize_B67  S x0 x1 x2 x3 x4 y0 (1 : Int32) (1 : Int32)) (fun q => Rl T kw_M60 S0 0 0 T q.2 ∧ In (-3) 59 q.1) := by
  unfold f_M_authorize_B67
  exact t_M_authorize_B68_5t100_6c1_7c1_8c0 (Rlweak g (by decide +kernel) (by decide) (by decide))  h_x0 (In_w h_x1 (by decide) (by decide)) (In_w h_x2 (by decide) (by decide)) (In_w h_x3 (by decide) (by decide)) (In_w h_x4 (by decide) (by decide)) h_y0 (In_w hx_89_x1 (by decide) (by decide)) hfgf0
theorem t_M_authorize_B67_5t100_6c1_7c0 {T : Nat → Nat} {S0 S : AS} (g : Rl T [] S0 0 0 T S) {x0 : Option Nat} {x1 : Int32} {x2 : Int32} {x3 : Int32} {x4 : Int32} {y0 : Option Nat} (h_x0 : Tx T 100 x0) (h_x1 : In 0 59 x1) (h_x2 : In 0 3 x2) (h_x3 : In 0 3 x3) (h_y0 : Tx T 100 y0) (hx_89_x1 : In 0 1 (sI S 89 x1.toNatClampNeg)) (hfgf0 : Gf S0 ≤ 0) : Ho (f_M_authorize_B67  S x0 x1 x2 x3 x4 y0 (1 : Int32) (0 : Int32)) (fun q => Rl T kw_M60 S0 0 0 T q.2 ∧ In (-3) 59 q.1) := by
  unfold f_M_authorize_B67
  exact t_M_authorize_B68_5t100_6c1_7c0_8c0 (Rlweak g (by decide +kernel) (by decide) (by decide))  h_x0 (In_w h_x1 (by decide) (by decide)) (In_w h_x2 (by decide) (by decide)) (In_w h_x3 (by decide) (by decide)) h_y0 (In_w hx_89_x1 (by decide) (by decide)) hfgf0
theorem t_M_authorize_B67_5t100_6c0_7c1 {T : Nat → Nat} {S0 S : AS} (g : Rl T [] S0 0 0 T S) {x0 : Option Nat} {x1 : Int32} {x2 : Int32} {x3 : Int32} {x4 : Int32} {y0 : Option Nat} (h_x0 : Tx T 100 x0) (h_x4 : In 1 15 x4) (h_y0 : Tx T 100 y0) (hfgf0 : Gf S0 ≤ 0) : Ho (f_M_authorize_B67  S x0 x1 x2 x3 x4 y0 (0 : Int32) (1 : Int32)) (fun q => Rl T kw_M60 S0 0 0 T q.2 ∧ In (-3) 59 q.1) := by
  unfold f_M_authorize_B67
  exact t_M_authorize_B68_5t100_6c0_7c1_8c0 (Rlweak g (by decide +kernel) (by decide) (by decide))  h_x0 (In_w h_x4 (by decide) (by decide)) h_y0 hfgf0
theorem t_M_authorize_B67_5t100_6c0_7c0 {T : Nat → Nat} {S0 S : AS} (g : Rl T [] S0 0 0 T S) {x0 : Option Nat} {x1 : Int32} {x2 : Int32} {x3 : Int32} {x4 : Int32} {y0 : Option Nat} (h_x0 : Tx T 100 x0) (h_y0 : Tx T 100 y0) (hfgf0 : Gf S0 ≤ 0) : Ho (f_M_authorize_B67  S x0 x1 x2 x3 x4 y0 (0 : Int32) (0 : Int32)) (fun q => Rl T kw_M60 S0 0 0 T q.2 ∧ In (-3) 59 q.1) := by
  unfold f_M_authorize_B67
  exact t_M_authorize_B68_5t100_6c0_7c0_8c0 (Rlweak g (by decide +kernel) (by decide) (by decide))  h_x0 h_y0 hfgf0
theorem t_M_authorize_B27_5c1 {T : Nat → Nat} {S0 S : AS} (g : Rl T [] S0 0 0 T S) {x0 : Option Nat} {x1 : Int32} {x2 : Int32} {x3 : Int32} {x4 : Int32} (h_x0 : Tx T 100 x0) (h_x1 : In 0 59 x1) (h_x2 : In 0 3 x2) (h_x3 : In 0 3 x3) (hfgf0 : Gf S0 ≤ 0) : Ho (f_M_authorize_B27  S x0 x1 x2 x3 x4 (1 : Int32)) (fun q => Rl T kw_M60 S0 0 0 T q.2 ∧ In (-3) 59 q.1) := by
  unfold f_M_authorize_B27
  refine r_Mi (fun p1 p1b => ?_) ?_
  · have q2 : In 1 2147483647 x4 := In_w (In_le2 p1 (by decide : In 1 1 (1 : Int32)) (In_top x4)) (by decide) (by decide)
    have q3 : In 1 15 x4 := In_w (In_le1 p1b q2 (by decide : In 15 15 (15 : Int32))) (by decide) (by decide)
    refine r_ifF (by decide) ?_
    refine r_gR g.1 h_x0 rfl rfl (fun v43 h4 => ?_)
    refine r_aIs g.1 h4 rfl (p := 89) rfl rfl (In_w h_x1 (by decide) (by decide) : In 0 59 x1) (by decide) (fun v44 b5 e6 => ?_)
    have q7 : In 0 1 v44 := b5 _ _ rfl
    refine r_if (fun c8 => ?_) (fun c8 => ?_)
    · have q9 : In 0 0 v44 := In_w (In_eq c8 (by decide : In 0 0 (0 : Int32))) (by decide) (by decide)
      exact t_M_authorize_B67_5t100_6c1_7c1 (Rlweak g (by decide +kernel) (by decide) (by decide))  h_x0 (In_w h_x1 (by decide) (by decide)) (In_w h_x2 (by decide) (by decide)) (In_w h_x3 (by decide) (by decide)) (In_w q3 (by decide) (by decide)) h_x0 (In_w (In_cell e6 q9) (by decide) (by decide)) hfgf0
    · have q10 : In 1 1 v44 := In_w (In_neL c8 q7 (by decide)) (by decide) (by decide)
      refine r_gIs g.1 h_x0 rfl (p := 57) rfl (fun v45 b11 e12 => ?_)
      have q13 : In 0 60 v45 := b11 _ _ rfl
      refine r_if (fun c14 => ?_) (fun c14 => ?_)
      · have q15 : In 60 60 v45 := In_w (In_le2 c14 (by decide : In 60 60 (60 : Int32)) q13) (by decide) (by decide)
        exact t_M_authorize_B67_5t100_6c1_7c1 (Rlweak g (by decide +kernel) (by decide) (by decide))  h_x0 (In_w h_x1 (by decide) (by decide)) (In_w h_x2 (by decide) (by decide)) (In_w h_x3 (by decide) (by decide)) (In_w q3 (by decide) (by decide)) h_x0 (In_w (In_cell e6 q10) (by decide) (by decide)) hfgf0
      · have q16 : In 0 59 v45 := In_w (In_lt1 (Int32.not_le.mp c14) q13 (by decide : In 60 60 (60 : Int32))) (by decide) (by decide)
        exact t_M_authorize_B68_5t100_6c1_7c1_8c1 (Rlweak g (by decide +kernel) (by decide) (by decide))  h_x0 (In_w h_x1 (by decide) (by decide)) (In_w h_x2 (by decide) (by decide)) (In_w h_x3 (by decide) (by decide)) (In_w q3 (by decide) (by decide)) h_x0 (In_w (In_cell e12 q16) (by decide) (by decide)) (In_w (In_cell e6 q10) (by decide) (by decide)) hfgf0
  · refine r_ifF (by decide) ?_
    refine r_gR g.1 h_x0 rfl rfl (fun v43 h17 => ?_)
    refine r_aIs g.1 h17 rfl (p := 89) rfl rfl (In_w h_x1 (by decide) (by decide) : In 0 59 x1) (by decide) (fun v44 b18 e19 => ?_)
    have q20 : In 0 1 v44 := b18 _ _ rfl
    refine r_if (fun c21 => ?_) (fun c21 => ?_)
    · have q22 : In 0 0 v44 := In_w (In_eq c21 (by decide : In 0 0 (0 : Int32))) (by decide) (by decide)
      exact t_M_authorize_B67_5t100_6c1_7c0 (Rlweak g (by decide +kernel) (by decide) (by decide))  h_x0 (In_w h_x1 (by decide) (by decide)) (In_w h_x2 (by decide) (by decide)) (In_w h_x3 (by decide) (by decide)) h_x0 (In_w (In_cell e19 q22) (by decide) (by decide)) hfgf0
    · have q23 : In 1 1 v44 := In_w (In_neL c21 q20 (by decide)) (by decide) (by decide)
      refine r_gIs g.1 h_x0 rfl (p := 57) rfl (fun v45 b24 e25 => ?_)
      have q26 : In 0 60 v45 := b24 _ _ rfl
      refine r_if (fun c27 => ?_) (fun c27 => ?_)
      · have q28 : In 60 60 v45 := In_w (In_le2 c27 (by decide : In 60 60 (60 : Int32)) q26) (by decide) (by decide)
        exact t_M_authorize_B67_5t100_6c1_7c0 (Rlweak g (by decide +kernel) (by decide) (by decide))  h_x0 (In_w h_x1 (by decide) (by decide)) (In_w h_x2 (by decide) (by decide)) (In_w h_x3 (by decide) (by decide)) h_x0 (In_w (In_cell e19 q23) (by decide) (by decide)) hfgf0
      · have q29 : In 0 59 v45 := In_w (In_lt1 (Int32.not_le.mp c27) q26 (by decide : In 60 60 (60 : Int32))) (by decide) (by decide)
        exact t_M_authorize_B68_5t100_6c1_7c0_8c1 (Rlweak g (by decide +kernel) (by decide) (by decide))  h_x0 (In_w h_x1 (by decide) (by decide)) (In_w h_x2 (by decide) (by decide)) (In_w h_x3 (by decide) (by decide)) h_x0 (In_w (In_cell e25 q29) (by decide) (by decide)) (In_w (In_cell e19 q23) (by decide) (by decide)) hfgf0
theorem t_M_authorize_B27_5c0 {T : Nat → Nat} {S0 S : AS} (g : Rl T [] S0 0 0 T S) {x0 : Option Nat} {x1 : Int32} {x2 : Int32} {x3 : Int32} {x4 : Int32} (h_x0 : Tx T 100 x0) (hfgf0 : Gf S0 ≤ 0) : Ho (f_M_authorize_B27  S x0 x1 x2 x3 x4 (0 : Int32)) (fun q => Rl T kw_M60 S0 0 0 T q.2 ∧ In (-3) 59 q.1) := by
  unfold f_M_authorize_B27
  refine r_Mi (fun p1 p1b => ?_) ?_
  · have q2 : In 1 2147483647 x4 := In_w (In_le2 p1 (by decide : In 1 1 (1 : Int32)) (In_top x4)) (by decide) (by decide)
    have q3 : In 1 15 x4 := In_w (In_le1 p1b q2 (by decide : In 15 15 (15 : Int32))) (by decide) (by decide)
    refine r_ifT (by decide) ?_
    exact t_M_authorize_B67_5t100_6c0_7c1 (Rlweak g (by decide +kernel) (by decide) (by decide))  h_x0 (In_w q3 (by decide) (by decide)) h_x0 hfgf0
  · refine r_ifT (by decide) ?_
    exact t_M_authorize_B67_5t100_6c0_7c0 (Rlweak g (by decide +kernel) (by decide) (by decide))  h_x0 h_x0 hfgf0
theorem t_M_authorize_B26 {T : Nat → Nat} {S0 S : AS} (g : Rl T [] S0 0 0 T S) {x0 : Option Nat} {x1 : Int32} {x2 : Int32} {x3 : Int32} {x4 : Int32} (h_x0 : Tx T 100 x0) (hfgf0 : Gf S0 ≤ 0) : Ho (f_M_authorize_B26  S x0 x1 x2 x3 x4) (fun q => Rl T kw_M60 S0 0 0 T q.2 ∧ In (-3) 59 q.1) := by
  unfold f_M_authorize_B26
  exact t_M_authorize_B27_5c0 (Rlweak g (by decide +kernel) (by decide) (by decide))  h_x0 hfgf0
theorem t_M_authorize {T : Nat → Nat} {S : AS} (hT : TI T S) {a0 : Option Nat} {a1 : Int32} {a2 : Int32} {a3 : Int32} {a4 : Int32} (h_a0 : Tx T 100 a0) (hfgf0 : Gf S ≤ 0) : Ho (f_M_authorize  S a0 a1 a2 a3 a4) (fun q => Rl T kw_M60 S 0 0 T q.2 ∧ In (-3) 59 q.1) := by
  have g0 := Rlrf hT
  unfold f_M_authorize
  refine r_rv g0.1 h_a0 rfl ?_
  refine r_spl (u_isSession g0.1 h_a0) (fun q1 => ?_) ?_
  · have q2 : In 0 59 a1 := In_w q1.1 (by decide) (by decide)
    refine r_ifF (by decide) ?_
    refine r_spl (u_isService _ _) (fun q3 => ?_) ?_
    · have q4 : In 0 3 a2 := In_w q3 (by decide) (by decide)
      refine r_ifF (by decide) ?_
      refine r_spl (u_isService _ _) (fun q5 => ?_) ?_
      · have q6 : In 0 3 a3 := In_w q5 (by decide) (by decide)
        refine r_ifF (by decide) ?_
        exact t_M_authorize_B27_5c1 (Rlweak g0 (by decide +kernel) (by decide) (by decide))  h_a0 (In_w q2 (by decide) (by decide)) (In_w q4 (by decide) (by decide)) (In_w q6 (by decide) (by decide)) hfgf0
      · refine r_ifT (by decide) ?_
        exact t_M_authorize_B26 (Rlweak g0 (by decide +kernel) (by decide) (by decide))  h_a0 hfgf0
    · refine r_ifT (by decide) ?_
      exact t_M_authorize_B26 (Rlweak g0 (by decide +kernel) (by decide) (by decide))  h_a0 hfgf0
  · refine r_ifT (by decide) ?_
    exact t_M_authorize_B26 (Rlweak g0 (by decide +kernel) (by decide) (by decide))  h_a0 hfgf0
theorem t_M_newToken {T : Nat → Nat} {S : AS} (hT : TI T S) {a0 : Option Nat} {a1 : Int32} {a2 : Int32} {a3 : Int32} {a4 : Int32} {a5 : Int32} {a6 : Int32} (h_a0 : Tx T 100 a0) (h_a1 : In 0 59 a1) (h_a2 : In 0 3 a2) (h_a3 : In 0 3 a3) (hx_57_52 : In 0 199 (sI S 57 52)) : Ho (f_M_newToken  S a0 a1 a2 a3 a4 a5 a6) (fun q => Rl T kw_M69 S 0 0 T q.2 ∧ In 0 199 q.1) := by
  have g0 := Rlrf hT
  unfold f_M_newToken
  refine r_gIs g0.1 h_a0 rfl (p := 57) rfl (fun v1 b1 e2 => ?_)
  have q3 : In 0 200 v1 := b1 _ _ rfl
  have q4 : In 0 199 v1 := In_w (In_read e2 hx_57_52) (by decide) (by decide)
  refine r_gR g0.1 h_a0 rfl rfl (fun v2 h5 => ?_)
  refine r_bIs (w' := kw_M61) g0 h5 rfl (p := 108) rfl rfl (In_w q4 (by decide) (by decide) : In 0 199 v1) (by decide) (fun _ _ _ q => by cases q; exact (In_w h_a1 (by decide) (by decide))) (fun _ => rfl) (by decide) (by decide +kernel) (fun _ => by unfold phc; omega) (fun s6 g7 e8 => ?_)
  have f9 : In 0 199 (sI s6 57 52) := In_ne e8 (by omega) (In_cell e2 q4)
  have f10 : In 0 59 (sI s6 108 v1.toNatClampNeg) := In_eqw e8 (In_w h_a1 (by decide) (by decide))
  refine r_gR g7.1 h_a0 rfl rfl (fun v4 h11 => ?_)
  refine r_bIs (w' := kw_M62) g7 h11 rfl (p := 104) rfl rfl (In_w q4 (by decide) (by decide) : In 0 199 v1) (by decide) (fun _ _ _ q => by cases q; exact (In_w h_a2 (by decide) (by decide))) (fun _ => rfl) (by decide) (by decide +kernel) (fun _ => by unfold phc; omega) (fun s12 g13 e14 => ?_)
  have f15 : In 0 199 (sI s12 57 52) := In_ne e14 (by omega) f9
  have f16 : In 0 59 (sI s12 108 v1.toNatClampNeg) := In_ne e14 (by omega) f10
  have f17 : In 0 3 (sI s12 104 v1.toNatClampNeg) := In_eqw e14 (In_w h_a2 (by decide) (by decide))
  refine r_gR g13.1 h_a0 rfl rfl (fun v6 h18 => ?_)
  refine r_bIs (w' := kw_M63) g13 h18 rfl (p := 105) rfl rfl (In_w q4 (by decide) (by decide) : In 0 199 v1) (by decide) (fun _ _ _ q => by cases q; exact (In_w h_a3 (by decide) (by decide))) (fun _ => rfl) (by decide) (by decide +kernel) (fun _ => by unfold phc; omega) (fun s19 g20 e21 => ?_)
  have f22 : In 0 199 (sI s19 57 52) := In_ne e21 (by omega) f15
  have f23 : In 0 59 (sI s19 108 v1.toNatClampNeg) := In_ne e21 (by omega) f16
  have f24 : In 0 3 (sI s19 104 v1.toNatClampNeg) := In_ne e21 (by omega) f17
  have f25 : In 0 3 (sI s19 105 v1.toNatClampNeg) := In_eqw e21 (In_w h_a3 (by decide) (by decide))
  refine r_gR g20.1 h_a0 rfl rfl (fun v8 h26 => ?_)
  refine r_bIs (w' := kw_M64) g20 h26 rfl (p := 106) rfl rfl (In_w q4 (by decide) (by decide) : In 0 199 v1) (by decide) (fun _ _ _ q => by cases q) (fun _ => rfl) (by decide) (by decide +kernel) (fun _ => by unfold phc; omega) (fun s27 g28 e29 => ?_)
  have f30 : In 0 199 (sI s27 57 52) := In_ne e29 (by omega) f22
  have f31 : In 0 59 (sI s27 108 v1.toNatClampNeg) := In_ne e29 (by omega) f23
  have f32 : In 0 3 (sI s27 104 v1.toNatClampNeg) := In_ne e29 (by omega) f24
  have f33 : In 0 3 (sI s27 105 v1.toNatClampNeg) := In_ne e29 (by omega) f25
  refine r_gR g28.1 h_a0 rfl rfl (fun v10 h34 => ?_)
  refine r_bIs (w' := kw_M65) g28 h34 rfl (p := 107) rfl rfl (In_w q4 (by decide) (by decide) : In 0 199 v1) (by decide) (fun _ _ _ q => by cases q) (fun _ => rfl) (by decide) (by decide +kernel) (fun _ => by unfold phc; omega) (fun s35 g36 e37 => ?_)
  have f38 : In 0 199 (sI s35 57 52) := In_ne e37 (by omega) f30
  have f39 : In 0 59 (sI s35 108 v1.toNatClampNeg) := In_ne e37 (by omega) f31
  have f40 : In 0 3 (sI s35 104 v1.toNatClampNeg) := In_ne e37 (by omega) f32
  have f41 : In 0 3 (sI s35 105 v1.toNatClampNeg) := In_ne e37 (by omega) f33
  refine r_gR g36.1 h_a0 rfl rfl (fun v12 h42 => ?_)
  refine r_bIs (w' := kw_M66) g36 h42 rfl (p := 110) rfl rfl (In_w q4 (by decide) (by decide) : In 0 199 v1) (by decide) (fun _ _ _ q => by cases q) (fun _ => rfl) (by decide) (by decide +kernel) (fun _ => by unfold phc; omega) (fun s43 g44 e45 => ?_)
  have f46 : In 0 199 (sI s43 57 52) := In_ne e45 (by omega) f38
  have f47 : In 0 59 (sI s43 108 v1.toNatClampNeg) := In_ne e45 (by omega) f39
  have f48 : In 0 3 (sI s43 104 v1.toNatClampNeg) := In_ne e45 (by omega) f40
  have f49 : In 0 3 (sI s43 105 v1.toNatClampNeg) := In_ne e45 (by omega) f41
  refine r_gR g44.1 h_a0 rfl rfl (fun v14 h50 => ?_)
  refine r_gIs g44.1 h_a0 rfl (p := 57) rfl (fun v15 b51 e52 => ?_)
  have q53 : In 0 19 v15 := b51 _ _ rfl
  refine r_bIs (w' := kw_M67) g44 h50 rfl (p := 109) rfl rfl (In_w q4 (by decide) (by decide) : In 0 199 v1) (by decide) (fun _ _ _ q => by cases q; exact (In_w q53 (by decide) (by decide))) (fun _ => rfl) (by decide) (by decide +kernel) (fun _ => by unfold phc; omega) (fun s54 g55 e56 => ?_)
  have f57 : In 0 199 (sI s54 57 52) := In_ne e56 (by omega) f46
  have f58 : In 0 59 (sI s54 108 v1.toNatClampNeg) := In_ne e56 (by omega) f47
  have f59 : In 0 3 (sI s54 104 v1.toNatClampNeg) := In_ne e56 (by omega) f48
  have f60 : In 0 3 (sI s54 105 v1.toNatClampNeg) := In_ne e56 (by omega) f49
  have f61 : In 0 19 (sI s54 109 v1.toNatClampNeg) := In_eqw e56 (In_w q53 (by decide) (by decide))
  refine r_gR g55.1 h_a0 rfl rfl (fun v17 h62 => ?_)
  refine r_bIs (w' := kw_M68) g55 h62 rfl (p := 102) rfl rfl (In_w h_a1 (by decide) (by decide) : In 0 59 a1) (by decide) (fun _ _ _ q => by cases q) (fun _ => rfl) (by decide) (by decide +kernel) (fun _ => by unfold phc; omega) (fun s63 g64 e65 => ?_)
  have f66 : In 0 199 (sI s63 57 52) := In_ne e65 (by omega) f57
  have f67 : In 0 59 (sI s63 108 v1.toNatClampNeg) := In_ne e65 (by omega) f58
  have f68 : In 0 3 (sI s63 104 v1.toNatClampNeg) := In_ne e65 (by omega) f59
  have f69 : In 0 3 (sI s63 105 v1.toNatClampNeg) := In_ne e65 (by omega) f60
  have f70 : In 0 19 (sI s63 109 v1.toNatClampNeg) := In_ne e65 (by omega) f61
  have f71 : In 0 199 (sI s63 102 a1.toNatClampNeg) := In_eqw e65 (In_w q4 (by decide) (by decide))
  refine r_gIs g64.1 h_a0 rfl (p := 57) rfl (fun v19 b72 e73 => ?_)
  have q74 : In 0 200 v19 := b72 _ _ rfl
  have q75 : In 0 199 v19 := In_w (In_read e73 f66) (by decide) (by decide)
  refine r_pIs (w' := kw_M69) g64 h_a0 (fun _ _ q => by cases q; exact (In_w (In_w (In_add q75 (by decide : In 1 1 (1 : Int32)) (by decide) (by decide)) (by decide) (by decide) : In 1 200 (v19 + (1 : Int32))) (by decide) (by decide))) (by decide +kernel) (by unfold phc; decide) (fun s76 g77 e78 => ?_)
  have f79 : In 0 59 (sI s76 108 v1.toNatClampNeg) := In_ne e78 (by omega) f67
  have f80 : In 0 3 (sI s76 104 v1.toNatClampNeg) := In_ne e78 (by omega) f68
  have f81 : In 0 3 (sI s76 105 v1.toNatClampNeg) := In_ne e78 (by omega) f69
  have f82 : In 0 19 (sI s76 109 v1.toNatClampNeg) := In_ne e78 (by omega) f70
  have f83 : In 0 199 (sI s76 102 a1.toNatClampNeg) := In_ne e78 (by omega) f71
  have f84 : In 1 200 (sI s76 57 52) := In_eqw e78 (In_w (In_w (In_add q75 (by decide : In 1 1 (1 : Int32)) (by decide) (by decide)) (by decide) (by decide) : In 1 200 (v19 + (1 : Int32))) (by decide) (by decide))
  exact r_some ⟨(Rlweak g77 (by decide +kernel) (by decide) (by decide)), (In_w q4 (by decide) (by decide))⟩
theorem t_M_firstToken {T : Nat → Nat} {S : AS} (hT : TI T S) {a0 : Option Nat} {a1 : Int32} (h_a0 : Tx T 100 a0) (h_a1 : In 0 59 a1) (hx_57_52 : In 0 199 (sI S 57 52)) : Ho (f_M_firstToken  S a0 a1) (fun q => Rl T kw_M69 S 0 0 T q) := by
  have g0 := Rlrf hT
  unfold f_M_firstToken
  refine r_gR g0.1 h_a0 rfl rfl (fun v1 h1 => ?_)
  refine r_aIs g0.1 h1 rfl (p := 99) rfl rfl (In_w h_a1 (by decide) (by decide) : In 0 59 a1) (by decide) (fun v2 b2 e3 => ?_)
  have q4 : In 0 59 v2 := b2 _ _ rfl
  refine r_gR g0.1 h_a0 rfl rfl (fun v3 h5 => ?_)
  refine r_aIs g0.1 h5 rfl (p := 94) rfl rfl (In_w q4 (by decide) (by decide) : In 0 59 v2) (by decide) (fun v4 b6 e7 => ?_)
  have q8 : In 0 3 v4 := b6 _ _ rfl
  refine r_gR g0.1 h_a0 rfl rfl (fun v5 h9 => ?_)
  refine r_aIs g0.1 h9 rfl (p := 95) rfl rfl (In_w q4 (by decide) (by decide) : In 0 59 v2) (by decide) (fun v6 b10 e11 => ?_)
  have q12 : In 0 3 v6 := b10 _ _ rfl
  refine r_gR g0.1 h_a0 rfl rfl (fun v7 h13 => ?_)
  refine r_aIs g0.1 h13 rfl (p := 96) rfl rfl (In_w q4 (by decide) (by decide) : In 0 59 v2) (by decide) (fun v8 b14 e15 => ?_)
  refine r_gIs g0.1 h_a0 rfl (p := 57) rfl (fun v9 b16 e17 => ?_)
  refine r_rv g0.1 h_a0 rfl ?_
  refine r_b2 (t_M_newToken g0.1 h_a0 (In_w h_a1 (by decide) (by decide)) (In_w q8 (by decide) (by decide)) (In_w q12 (by decide) (by decide)) (In_w hx_57_52 (by decide) (by decide))) (fun v12 s19 h18 => ?_)
  obtain ⟨g20, h18r⟩ := h18
  have g21 : Rl T kw_M69 S 0 0 T s19 := Rltrans g0 g20 (by decide +kernel)
  exact r_some (Rlweak g21 (by decide +kernel) (by decide) (by decide))
theorem t_M_redeem_B82_2c1_3t100_4c1_5c0 {T : Nat → Nat} {S0 S : AS} (g : Rl T [] S0 0 0 T S) {x0 : Option Nat} {x1 : Int32} {y0 : Option Nat} (h_x0 : Tx T 100 x0) (h_x1 : In 0 59 x1) (h_y0 : Tx T 100 y0) (hx_57_52 : In 200 200 (sI S 57 52)) (hx_98_x1 : In (-1) (-1) (sI S 98 x1.toNatClampNeg)) (hfgf0 : Gf S0 ≤ 0) (hfph0 : Ph S0 ≤ 1100) : Ho (f_M_redeem_B82  S x0 x1 (1 : Int32) y0 (1 : Int32) (0 : Int32)) (fun q => Rl T kw_M77 S0 0 0 T q.2 ∧ In (-1) 59 q.1) := by
  unfold f_M_redeem_B82
  refine r_rv g.1 h_y0 rfl ?_
  refine r_mayBoth (w' := kw_M4) g h_y0 (by decide +kernel) (fun s1 g2 g2e c3 c4 => ?_) (fun s1 g2 g2e => ?_)
  · exact absurd rfl c4
  · have f5 : In 200 200 (sI s1 57 52) := by rw [g2e 57 52 (by omega)]; exact hx_57_52
    have f6 : In (-1) (-1) (sI s1 98 x1.toNatClampNeg) := by rw [g2e 98 x1.toNatClampNeg (by omega)]; exact hx_98_x1
    refine r_ifT (by decide) ?_
    exact r_some ⟨(Rlweak g2 (by decide +kernel) (by decide) (by decide)), (In_w (by decide : In 0 0 (0 : Int32)) (by decide) (by decide))⟩
theorem t_M_redeem_B82_2c1_3t100_4c1_5c1 {T : Nat → Nat} {S0 S : AS} (g : Rl T [] S0 0 0 T S) {x0 : Option Nat} {x1 : Int32} {y0 : Option Nat} (h_x0 : Tx T 100 x0) (h_x1 : In 0 59 x1) (h_y0 : Tx T 100 y0) (hx_57_52 : In 0 199 (sI S 57 52)) (hx_98_x1 : In (-1) (-1) (sI S 98 x1.toNatClampNeg)) (hfgf0 : Gf S0 ≤ 0) (hfph0 : Ph S0 ≤ 1100) : Ho (f_M_redeem_B82  S x0 x1 (1 : Int32) y0 (1 : Int32) (1 : Int32)) (fun q => Rl T kw_M77 S0 0 0 T q.2 ∧ In (-1) 59 q.1) := by
  unfold f_M_redeem_B82
  refine r_rv g.1 h_y0 rfl ?_
  refine r_mayBoth (w' := kw_M4) g h_y0 (by decide +kernel) (fun s1 g2 g2e c3 c4 => ?_) (fun s1 g2 g2e => ?_)
  · have f5 : In 0 199 (sI s1 57 52) := by rw [g2e 57 52 (by omega)]; exact hx_57_52
    have f6 : In (-1) (-1) (sI s1 98 x1.toNatClampNeg) := by rw [g2e 98 x1.toNatClampNeg (by omega)]; exact hx_98_x1
    refine r_ifF (by decide) ?_
    refine r_ifF (by decide) ?_
    refine r_gIs g2.1 h_x0 rfl (p := 57) rfl (fun v10 b7 e8 => ?_)
    have q9 : In 0 60 v10 := b7 _ _ rfl
    have q10 : In 0 59 v10 := In_w (In_read e8 (fam_lt g2.1 (gfS hfgf0 g2) (In_w h_x1 (by decide) (by decide)) f6)) (by decide) (by decide)
    refine r_gR g2.1 h_x0 rfl rfl (fun v11 h11 => ?_)
    refine r_bIs (w' := kw_M70) g2 h11 rfl (p := 99) rfl rfl (In_w q10 (by decide) (by decide) : In 0 59 v10) (by decide) (fun _ _ _ q => by cases q; exact (In_w h_x1 (by decide) (by decide))) (fun _ => rfl) (by decide) (by decide +kernel) (fun _ => by unfold phc; omega) (fun s12 g13 e14 => ?_)
    have f15 : In 0 199 (sI s12 57 52) := In_ne e14 (by omega) f5
    have f16 : In (-1) (-1) (sI s12 98 x1.toNatClampNeg) := In_ne e14 (by omega) f6
    have f17 : In 0 59 (sI s12 57 46) := In_ne e14 (by omega) (In_cell e8 q10)
    have f18 : In 0 59 (sI s12 99 v10.toNatClampNeg) := In_eqw e14 (In_w h_x1 (by decide) (by decide))
    have E19 : v10 = sI s12 57 46 := by rw [e14, ti_sI_ne (by omega)]; exact e8
    refine r_gR g13.1 h_x0 rfl rfl (fun v13 h20 => ?_)
    refine r_bIs (w' := kw_M71) g13 h20 rfl (p := 100) rfl rfl (In_w q10 (by decide) (by decide) : In 0 59 v10) (by decide) (fun _ _ _ q => by cases q) (fun _ => rfl) (by decide) (by decide +kernel) (fun _ => by unfold phc; omega) (fun s21 g22 e23 => ?_)
    have f24 : In 0 199 (sI s21 57 52) := In_ne e23 (by omega) f15
    have f25 : In (-1) (-1) (sI s21 98 x1.toNatClampNeg) := In_ne e23 (by omega) f16
    have f26 : In 0 59 (sI s21 57 46) := In_ne e23 (by omega) f17
    have f27 : In 0 59 (sI s21 99 v10.toNatClampNeg) := In_ne e23 (by omega) f18
    have f28 : In 0 0 (sI s21 100 v10.toNatClampNeg) := In_eqw e23 (In_w (by decide : In 0 0 (0 : Int32)) (by decide) (by decide))
    have E29 : v10 = sI s21 57 46 := by rw [e23, ti_sI_ne (by omega)]; exact E19
    refine r_gR g22.1 h_x0 rfl rfl (fun v15 h30 => ?_)
    refine r_gIs g22.1 h_x0 rfl (p := 57) rfl (fun v16 b31 e32 => ?_)
    refine r_bIs (w' := kw_M72) g22 h30 rfl (p := 101) rfl rfl (In_w q10 (by decide) (by decide) : In 0 59 v10) (by decide) (fun _ _ _ q => by cases q) (fun _ => rfl) (by decide) (by decide +kernel) (fun _ => by unfold phc; omega) (fun s33 g34 e35 => ?_)
    have f36 : In 0 199 (sI s33 57 52) := In_ne e35 (by omega) f24
    have f37 : In (-1) (-1) (sI s33 98 x1.toNatClampNeg) := In_ne e35 (by omega) f25
    have f38 : In 0 59 (sI s33 57 46) := In_ne e35 (by omega) f26
    have f39 : In 0 59 (sI s33 99 v10.toNatClampNeg) := In_ne e35 (by omega) f27
    have f40 : In 0 0 (sI s33 100 v10.toNatClampNeg) := In_ne e35 (by omega) f28
    have E41 : v10 = sI s33 57 46 := by rw [e35, ti_sI_ne (by omega)]; exact E29
    refine r_gR g34.1 h_x0 rfl rfl (fun v18 h42 => ?_)
    refine r_bZone (w' := kw_M73) (p := 103) g34 h42 (by decide) (In_w q10 (by decide) (by decide)) (by decide +kernel) (fun s45 g46 e47 => ?_)
    have f48 : In 0 199 (sI s45 57 52) := In_ne e47 (by omega) f36
    have f49 : In (-1) (-1) (sI s45 98 x1.toNatClampNeg) := In_ne e47 (by omega) f37
    have f50 : In 0 59 (sI s45 57 46) := In_ne e47 (by omega) f38
    have f51 : In 0 59 (sI s45 99 v10.toNatClampNeg) := In_ne e47 (by omega) f39
    have f52 : In 0 0 (sI s45 100 v10.toNatClampNeg) := In_ne e47 (by omega) f40
    have E53 : v10 = sI s45 57 46 := by rw [e47, ti_sI_ne (by omega)]; exact E41
    have C54 : sC s45 ≤ sC S0 + 0 := by rw [e47]; exact g34.2.2.2.1.1
    refine r_gR g46.1 h_x0 rfl rfl (fun v20 h55 => ?_)
    refine r_redw (w' := kw_M74) g46 C54 h55 h_x0 h_x0 (In_w h_x1 (by decide) (by decide)) (In_w q10 (by decide) (by decide)) E53 f49 (phS hfph0 g46 (by decide)) (by decide +kernel) (fun s58 g59 g59e => ?_)
    have f60 : In 0 199 (sI s58 57 52) := by rw [g59e 52 (by decide)]; exact f48
    refine r_rv g59.1 h_x0 rfl ?_
    refine r_bind (t_M_firstToken g59.1 h_x0 (In_w q10 (by decide) (by decide)) (In_w f60 (by decide) (by decide))) (fun s61 h62 => ?_)
    have g63 : Rl T kw_M75 S0 0 0 T s61 := Rltrans g59 h62 (by decide +kernel)
    exact r_some ⟨(Rlweak g63 (by decide +kernel) (by decide) (by decide)), (In_w q10 (by decide) (by decide))⟩
  · have f64 : In 0 199 (sI s1 57 52) := by rw [g2e 57 52 (by omega)]; exact hx_57_52
    have f65 : In (-1) (-1) (sI s1 98 x1.toNatClampNeg) := by rw [g2e 98 x1.toNatClampNeg (by omega)]; exact hx_98_x1
    refine r_ifT (by decide) ?_
    exact r_some ⟨(Rlweak g2 (by decide +kernel) (by decide) (by decide)), (In_w (by decide : In 0 0 (0 : Int32)) (by decide) (by decide))⟩
theorem t_M_redeem_B82_2c0_3t100_4c1_5c1 {T : Nat → Nat} {S0 S : AS} (g : Rl T [] S0 0 0 T S) {x0 : Option Nat} {x1 : Int32} {y0 : Option Nat} (h_x0 : Tx T 100 x0) (h_x1 : In 0 59 x1) (h_y0 : Tx T 100 y0) (hx_98_x1 : In (-1) 59 (sI S 98 x1.toNatClampNeg)) (hfgf0 : Gf S0 ≤ 0) (hfph0 : Ph S0 ≤ 1100) : Ho (f_M_redeem_B82  S x0 x1 (0 : Int32) y0 (1 : Int32) (1 : Int32)) (fun q => Rl T kw_M77 S0 0 0 T q.2 ∧ In (-1) 59 q.1) := by
  unfold f_M_redeem_B82
  refine r_rv g.1 h_y0 rfl ?_
  refine r_mayBoth (w' := kw_M4) g h_y0 (by decide +kernel) (fun s1 g2 g2e c3 c4 => ?_) (fun s1 g2 g2e => ?_)
  · have f5 : In (-1) 59 (sI s1 98 x1.toNatClampNeg) := by rw [g2e 98 x1.toNatClampNeg (by omega)]; exact hx_98_x1
    refine r_ifF (by decide) ?_
    refine r_ifT (by decide) ?_
    refine r_gR g2.1 h_x0 rfl rfl (fun v4 h6 => ?_)
    refine r_aIs g2.1 h6 rfl (p := 98) rfl rfl (In_w h_x1 (by decide) (by decide) : In 0 59 x1) (by decide) (fun v5 b7 e8 => ?_)
    have q9 : In (-1) 59 v5 := b7 _ _ rfl
    refine r_if (fun c10 => ?_) (fun c10 => ?_)
    · have q11 : In (-1) (-1) v5 := In_w (In_eq c10 (by decide : In (-1) (-1) (-1 : Int32))) (by decide) (by decide)
      exact r_some ⟨(Rlweak g2 (by decide +kernel) (by decide) (by decide)), (In_w (by decide : In (-1) (-1) (-1 : Int32)) (by decide) (by decide))⟩
    · have q12 : In 0 59 v5 := In_w (In_neL c10 q9 (by decide)) (by decide) (by decide)
      refine r_gR g2.1 h_x0 rfl rfl (fun v6 h13 => ?_)
      refine r_aIs g2.1 h13 rfl (p := 98) rfl rfl (In_w h_x1 (by decide) (by decide) : In 0 59 x1) (by decide) (fun v7 b14 e15 => ?_)
      have q16 : In (-1) 59 v7 := b14 _ _ rfl
      have q17 : In 0 59 v7 := In_w (In_read e15 (In_cell e8 q12)) (by decide) (by decide)
      refine r_rv g2.1 h_x0 rfl ?_
      refine r_bind (t_M_endFamily g2.1 h_x0 (In_w q17 (by decide) (by decide)) (phS hfph0 g2 (by decide))) (fun s18 h19 => ?_)
      have g20 : Rl T kw_M76 S0 0 0 T s18 := Rltrans g2 h19 (by decide +kernel)
      have f21 : In 0 59 (sI s18 98 x1.toNatClampNeg) := In_fr h19 h_x0 (j := 45) rfl rfl (by decide) (by decide +kernel) (In_cell e15 q17)
      exact r_some ⟨(Rlweak g20 (by decide +kernel) (by decide) (by decide)), (In_w (by decide : In (-1) (-1) (-1 : Int32)) (by decide) (by decide))⟩
  · have f22 : In (-1) 59 (sI s1 98 x1.toNatClampNeg) := by rw [g2e 98 x1.toNatClampNeg (by omega)]; exact hx_98_x1
    refine r_ifT (by decide) ?_
    exact r_some ⟨(Rlweak g2 (by decide +kernel) (by decide) (by decide)), (In_w (by decide : In 0 0 (0 : Int32)) (by decide) (by decide))⟩
theorem t_M_redeem_B82_2c0_3t100_4c0_5c1 {T : Nat → Nat} {S0 S : AS} (g : Rl T [] S0 0 0 T S) {x0 : Option Nat} {x1 : Int32} {y0 : Option Nat} (h_x0 : Tx T 100 x0) (h_y0 : Tx T 100 y0) (hfgf0 : Gf S0 ≤ 0) (hfph0 : Ph S0 ≤ 1100) : Ho (f_M_redeem_B82  S x0 x1 (0 : Int32) y0 (0 : Int32) (1 : Int32)) (fun q => Rl T kw_M77 S0 0 0 T q.2 ∧ In (-1) 59 q.1) := by
  unfold f_M_redeem_B82
  refine r_rv g.1 h_y0 rfl ?_
  refine r_mayBoth (w' := kw_M4) g h_y0 (by decide +kernel) (fun s1 g2 g2e c3 c4 => ?_) (fun s1 g2 g2e => ?_)
  · exact absurd rfl c3
  · refine r_ifT (by decide) ?_
    exact r_some ⟨(Rlweak g2 (by decide +kernel) (by decide) (by decide)), (In_w (by decide : In 0 0 (0 : Int32)) (by decide) (by decide))⟩
theorem t_M_redeem_B77_2c1_3t100_4c1 {T : Nat → Nat} {S0 S : AS} (g : Rl T [] S0 0 0 T S) {x0 : Option Nat} {x1 : Int32} {y0 : Option Nat} (h_x0 : Tx T 100 x0) (h_x1 : In 0 59 x1) (h_y0 : Tx T 100 y0) (hx_57_52 : In 0 199 (sI S 57 52)) (hx_98_x1 : In (-1) (-1) (sI S 98 x1.toNatClampNeg)) (hfgf0 : Gf S0 ≤ 0) (hfph0 : Ph S0 ≤ 1100) : Ho (f_M_redeem_B77  S x0 x1 (1 : Int32) y0 (1 : Int32)) (fun q => Rl T kw_M77 S0 0 0 T q.2 ∧ In (-1) 59 q.1) := by
  unfold f_M_redeem_B77
  exact t_M_redeem_B82_2c1_3t100_4c1_5c1 (Rlweak g (by decide +kernel) (by decide) (by decide))  h_x0 (In_w h_x1 (by decide) (by decide)) h_y0 (In_w hx_57_52 (by decide) (by decide)) (In_w hx_98_x1 (by decide) (by decide)) hfgf0 (Int.le_trans hfph0 (by decide))
theorem t_M_redeem_B77_2c0_3t100_4c1 {T : Nat → Nat} {S0 S : AS} (g : Rl T [] S0 0 0 T S) {x0 : Option Nat} {x1 : Int32} {y0 : Option Nat} (h_x0 : Tx T 100 x0) (h_x1 : In 0 59 x1) (h_y0 : Tx T 100 y0) (hx_98_x1 : In (-1) 59 (sI S 98 x1.toNatClampNeg)) (hfgf0 : Gf S0 ≤ 0) (hfph0 : Ph S0 ≤ 1100) : Ho (f_M_redeem_B77  S x0 x1 (0 : Int32) y0 (1 : Int32)) (fun q => Rl T kw_M77 S0 0 0 T q.2 ∧ In (-1) 59 q.1) := by
  unfold f_M_redeem_B77
  exact t_M_redeem_B82_2c0_3t100_4c1_5c1 (Rlweak g (by decide +kernel) (by decide) (by decide))  h_x0 (In_w h_x1 (by decide) (by decide)) h_y0 (In_w hx_98_x1 (by decide) (by decide)) hfgf0 (Int.le_trans hfph0 (by decide))
theorem t_M_redeem_B77_2c0_3t100_4c0 {T : Nat → Nat} {S0 S : AS} (g : Rl T [] S0 0 0 T S) {x0 : Option Nat} {x1 : Int32} {y0 : Option Nat} (h_x0 : Tx T 100 x0) (h_y0 : Tx T 100 y0) (hfgf0 : Gf S0 ≤ 0) (hfph0 : Ph S0 ≤ 1100) : Ho (f_M_redeem_B77  S x0 x1 (0 : Int32) y0 (0 : Int32)) (fun q => Rl T kw_M77 S0 0 0 T q.2 ∧ In (-1) 59 q.1) := by
  unfold f_M_redeem_B77
  exact t_M_redeem_B82_2c0_3t100_4c0_5c1 (Rlweak g (by decide +kernel) (by decide) (by decide))  h_x0 h_y0 hfgf0 (Int.le_trans hfph0 (by decide))
theorem t_M_redeem_B60_2c1_3c1 {T : Nat → Nat} {S0 S : AS} (g : Rl T [] S0 0 0 T S) {x0 : Option Nat} {x1 : Int32} (h_x0 : Tx T 100 x0) (h_x1 : In 0 59 x1) (hx_98_x1 : In (-1) (-1) (sI S 98 x1.toNatClampNeg)) (hfgf0 : Gf S0 ≤ 0) (hfph0 : Ph S0 ≤ 1100) : Ho (f_M_redeem_B60  S x0 x1 (1 : Int32) (1 : Int32)) (fun q => Rl T kw_M77 S0 0 0 T q.2 ∧ In (-1) 59 q.1) := by
  unfold f_M_redeem_B60
  refine r_ifF (by decide) ?_
  refine r_gIs g.1 h_x0 rfl (p := 57) rfl (fun v28 b1 e2 => ?_)
  have q3 : In 0 200 v28 := b1 _ _ rfl
  refine r_if (fun c4 => ?_) (fun c4 => ?_)
  · have q5 : In 200 200 v28 := In_w (In_le2 c4 (by decide : In 200 200 (200 : Int32)) q3) (by decide) (by decide)
    exact t_M_redeem_B82_2c1_3t100_4c1_5c0 (Rlweak g (by decide +kernel) (by decide) (by decide))  h_x0 (In_w h_x1 (by decide) (by decide)) h_x0 (In_w (In_cell e2 q5) (by decide) (by decide)) (In_w hx_98_x1 (by decide) (by decide)) hfgf0 (Int.le_trans hfph0 (by decide))
  · have q6 : In 0 199 v28 := In_w (In_lt1 (Int32.not_le.mp c4) q3 (by decide : In 200 200 (200 : Int32))) (by decide) (by decide)
    exact t_M_redeem_B77_2c1_3t100_4c1 (Rlweak g (by decide +kernel) (by decide) (by decide))  h_x0 (In_w h_x1 (by decide) (by decide)) h_x0 (In_w (In_cell e2 q6) (by decide) (by decide)) (In_w hx_98_x1 (by decide) (by decide)) hfgf0 (Int.le_trans hfph0 (by decide))
theorem t_M_redeem_B60_2c1_3c0 {T : Nat → Nat} {S0 S : AS} (g : Rl T [] S0 0 0 T S) {x0 : Option Nat} {x1 : Int32} (h_x0 : Tx T 100 x0) (h_x1 : In 0 59 x1) (hx_98_x1 : In (-1) 59 (sI S 98 x1.toNatClampNeg)) (hfgf0 : Gf S0 ≤ 0) (hfph0 : Ph S0 ≤ 1100) : Ho (f_M_redeem_B60  S x0 x1 (1 : Int32) (0 : Int32)) (fun q => Rl T kw_M77 S0 0 0 T q.2 ∧ In (-1) 59 q.1) := by
  unfold f_M_redeem_B60
  refine r_ifT (by decide) ?_
  exact t_M_redeem_B77_2c0_3t100_4c1 (Rlweak g (by decide +kernel) (by decide) (by decide))  h_x0 (In_w h_x1 (by decide) (by decide)) h_x0 (In_w hx_98_x1 (by decide) (by decide)) hfgf0 (Int.le_trans hfph0 (by decide))
theorem t_M_redeem_B60_2c0_3c0 {T : Nat → Nat} {S0 S : AS} (g : Rl T [] S0 0 0 T S) {x0 : Option Nat} {x1 : Int32} (h_x0 : Tx T 100 x0) (hfgf0 : Gf S0 ≤ 0) (hfph0 : Ph S0 ≤ 1100) : Ho (f_M_redeem_B60  S x0 x1 (0 : Int32) (0 : Int32)) (fun q => Rl T kw_M77 S0 0 0 T q.2 ∧ In (-1) 59 q.1) := by
  unfold f_M_redeem_B60
  refine r_ifT (by decide) ?_
  exact t_M_redeem_B77_2c0_3t100_4c0 (Rlweak g (by decide +kernel) (by decide) (by decide))  h_x0 h_x0 hfgf0 (Int.le_trans hfph0 (by decide))
theorem t_M_redeem_B59_2c1 {T : Nat → Nat} {S0 S : AS} (g : Rl T [] S0 0 0 T S) {x0 : Option Nat} {x1 : Int32} (h_x0 : Tx T 100 x0) (h_x1 : In 0 59 x1) (hx_98_x1 : In (-1) 59 (sI S 98 x1.toNatClampNeg)) (hfgf0 : Gf S0 ≤ 0) (hfph0 : Ph S0 ≤ 1100) : Ho (f_M_redeem_B59  S x0 x1 (1 : Int32)) (fun q => Rl T kw_M77 S0 0 0 T q.2 ∧ In (-1) 59 q.1) := by
  unfold f_M_redeem_B59
  exact t_M_redeem_B60_2c1_3c0 (Rlweak g (by decide +kernel) (by decide) (by decide))  h_x0 (In_w h_x1 (by decide) (by decide)) (In_w hx_98_x1 (by decide) (by decide)) hfgf0 (Int.le_trans hfph0 (by decide))
theorem t_M_redeem_B59_2c0 {T : Nat → Nat} {S0 S : AS} (g : Rl T [] S0 0 0 T S) {x0 : Option Nat} {x1 : Int32} (h_x0 : Tx T 100 x0) (hfgf0 : Gf S0 ≤ 0) (hfph0 : Ph S0 ≤ 1100) : Ho (f_M_redeem_B59  S x0 x1 (0 : Int32)) (fun q => Rl T kw_M77 S0 0 0 T q.2 ∧ In (-1) 59 q.1) := by
  unfold f_M_redeem_B59
  exact t_M_redeem_B60_2c0_3c0 (Rlweak g (by decide +kernel) (by decide) (by decide))  h_x0 hfgf0 (Int.le_trans hfph0 (by decide))
theorem t_M_redeem {T : Nat → Nat} {S : AS} (hT : TI T S) {a0 : Option Nat} {a1 : Int32} (h_a0 : Tx T 100 a0) (hfgf0 : Gf S ≤ 0) (hfph0 : Ph S ≤ 1100) : Ho (f_M_redeem  S a0 a1) (fun q => Rl T kw_M77 S 0 0 T q.2 ∧ In (-1) 59 q.1) := by
  have g0 := Rlrf hT
  unfold f_M_redeem
  refine r_gIs g0.1 h_a0 rfl (p := 57) rfl (fun v29 b1 e2 => ?_)
  have q3 : In 0 60 v29 := b1 _ _ rfl
  refine r_Mi (fun p4 p4b => ?_) ?_
  · have q5 : In 0 2147483647 a1 := In_w (In_le2 p4 (by decide : In 0 0 (0 : Int32)) (In_top a1)) (by decide) (by decide)
    have q6 : In 0 59 a1 := In_w (In_le1 p4b q5 (In_w (In_sub q3 (by decide : In 1 1 (1 : Int32)) (by decide) (by decide)) (by decide) (by decide) : In (-1) 59 (v29 - (1 : Int32)))) (by decide) (by decide)
    refine r_ifF (by decide) ?_
    refine r_gR g0.1 h_a0 rfl rfl (fun v32 h7 => ?_)
    refine r_aIs g0.1 h7 rfl (p := 98) rfl rfl (In_w q6 (by decide) (by decide) : In 0 59 a1) (by decide) (fun v33 b8 e9 => ?_)
    have q10 : In (-1) 59 v33 := b8 _ _ rfl
    refine r_if (fun c11 => ?_) (fun c11 => ?_)
    · have q12 : In (-1) (-1) v33 := In_w (In_eq c11 (by decide : In (-1) (-1) (-1 : Int32))) (by decide) (by decide)
      refine r_gIs g0.1 h_a0 rfl (p := 57) rfl (fun v34 b13 e14 => ?_)
      refine r_gR g0.1 h_a0 rfl rfl (fun v35 h15 => ?_)
      refine r_aIs g0.1 h15 rfl (p := 97) rfl rfl (In_w q6 (by decide) (by decide) : In 0 59 a1) (by decide) (fun v36 b16 e17 => ?_)
      refine r_if (fun c18 => ?_) (fun c18 => ?_)
      · exact t_M_redeem_B59_2c1 (Rlweak g0 (by decide +kernel) (by decide) (by decide))  h_a0 (In_w q6 (by decide) (by decide)) (In_w (In_cell e9 q12) (by decide) (by decide)) hfgf0 (Int.le_trans hfph0 (by decide))
      · refine r_gR g0.1 h_a0 rfl rfl (fun v37 h19 => ?_)
        refine r_gR g0.1 h_a0 rfl rfl (fun v38 h20 => ?_)
        refine r_aIs g0.1 h20 rfl (p := 93) rfl rfl (In_w q6 (by decide) (by decide) : In 0 59 a1) (by decide) (fun v39 b21 e22 => ?_)
        have q23 : In 0 59 v39 := b21 _ _ rfl
        refine r_aIs g0.1 h19 rfl (p := 89) rfl rfl (In_w q23 (by decide) (by decide) : In 0 59 v39) (by decide) (fun v40 b24 e25 => ?_)
        have q26 : In 0 1 v40 := b24 _ _ rfl
        refine r_if (fun c27 => ?_) (fun c27 => ?_)
        · have q28 : In 0 0 v40 := In_w (In_eq c27 (by decide : In 0 0 (0 : Int32))) (by decide) (by decide)
          exact t_M_redeem_B59_2c1 (Rlweak g0 (by decide +kernel) (by decide) (by decide))  h_a0 (In_w q6 (by decide) (by decide)) (In_w (In_cell e9 q12) (by decide) (by decide)) hfgf0 (Int.le_trans hfph0 (by decide))
        · have q29 : In 1 1 v40 := In_w (In_neL c27 q26 (by decide)) (by decide) (by decide)
          exact t_M_redeem_B60_2c1_3c1 (Rlweak g0 (by decide +kernel) (by decide) (by decide))  h_a0 (In_w q6 (by decide) (by decide)) (In_w (In_cell e9 q12) (by decide) (by decide)) hfgf0 (Int.le_trans hfph0 (by decide))
    · have q30 : In 0 59 v33 := In_w (In_neL c11 q10 (by decide)) (by decide) (by decide)
      exact t_M_redeem_B59_2c1 (Rlweak g0 (by decide +kernel) (by decide) (by decide))  h_a0 (In_w q6 (by decide) (by decide)) (In_w (In_cell e9 q30) (by decide) (by decide)) hfgf0 (Int.le_trans hfph0 (by decide))
  · refine r_ifT (by decide) ?_
    exact t_M_redeem_B59_2c0 (Rlweak g0 (by decide +kernel) (by decide) (by decide))  h_a0 hfgf0 (Int.le_trans hfph0 (by decide))
theorem t_M_thrown {T : Nat → Nat} {S : AS} (hT : TI T S) {a0 : Option Nat} (h_a0 : Tx T 100 a0) : Ho (f_M_thrown  S a0) (fun q => q.2 = S ∧ True) := by
  unfold f_M_thrown
  refine r_gIs hT h_a0 rfl (p := 57) rfl (fun v1 b1 e2 => ?_)
  exact r_some ⟨rfl, trivial⟩
theorem t_M_refresh_B227 {T : Nat → Nat} {S0 S : AS} (g : Rl T kw_M4 S0 0 0 T S) {x0 : Option Nat} {x1 : Int32} (h_x0 : Tx T 100 x0) (h_x1 : In 0 59 x1) (hx_103_x1 : In 1 1 (sI S 103 x1.toNatClampNeg)) (hfph0 : Ph S0 ≤ 1100) : Ho (f_M_refresh_B227  S x0 x1) (fun q => Rl T kw_M82 S0 0 0 T q.2 ∧ True) := by
  unfold f_M_refresh_B227
  refine r_rv g.1 h_x0 rfl ?_
  refine r_bind (t_M_endFamily g.1 h_x0 (In_w h_x1 (by decide) (by decide)) (phS hfph0 g (by decide))) (fun s1 h2 => ?_)
  have g3 : Rl T kw_M76 S0 0 0 T s1 := Rltrans g h2 (by decide +kernel)
  exact r_some ⟨(Rlweak g3 (by decide +kernel) (by decide) (by decide)), trivial⟩
theorem t_M_refresh_B121_3c1_4c1_5t100_6c1_7c1_8c0 {T : Nat → Nat} {S0 S : AS} (g : Rl T [] S0 0 0 T S) {x0 : Option Nat} {x1 : Int32} {x2 : Int32} {y0 : Option Nat} (h_x0 : Tx T 100 x0) (h_x1 : In 0 59 x1) (h_x2 : In 0 2147483647 x2) (h_y0 : Tx T 100 y0) (hx_57_52 : In 200 200 (sI S 57 52)) (hx_103_x1 : In 1 1 (sI S 103 x1.toNatClampNeg)) (hfph0 : Ph S0 ≤ 1100) : Ho (f_M_refresh_B121  S x0 x1 x2 (1 : Int32) (1 : Int32) y0 (1 : Int32) (1 : Int32) (0 : Int32)) (fun q => Rl T kw_M82 S0 0 0 T q.2 ∧ True) := by
  unfold f_M_refresh_B121
  refine r_rv g.1 h_y0 rfl ?_
  refine r_mayAll (w' := kw_M4) g h_y0 (by decide +kernel) (fun s1 g2 g2e c3 c4 c5 => ?_) (fun s1 g2 g2e => ?_)
  · exact absurd rfl c5
  · have f6 : In 200 200 (sI s1 57 52) := by rw [g2e 57 52 (by omega)]; exact hx_57_52
    have f7 : In 1 1 (sI s1 103 x1.toNatClampNeg) := by rw [g2e 103 x1.toNatClampNeg (by omega)]; exact hx_103_x1
    refine r_ifT (by decide) ?_
    exact r_some ⟨(Rlweak g2 (by decide +kernel) (by decide) (by decide)), trivial⟩
theorem t_M_refresh_B121_3c1_4c1_5t100_6c1_7c1_8c1 {T : Nat → Nat} {S0 S : AS} (g : Rl T [] S0 0 0 T S) {x0 : Option Nat} {x1 : Int32} {x2 : Int32} {y0 : Option Nat} (h_x0 : Tx T 100 x0) (h_x1 : In 0 59 x1) (h_x2 : In 0 2147483647 x2) (h_y0 : Tx T 100 y0) (hx_57_52 : In 0 199 (sI S 57 52)) (hx_103_x1 : In 1 1 (sI S 103 x1.toNatClampNeg)) (hfph0 : Ph S0 ≤ 1100) : Ho (f_M_refresh_B121  S x0 x1 x2 (1 : Int32) (1 : Int32) y0 (1 : Int32) (1 : Int32) (1 : Int32)) (fun q => Rl T kw_M82 S0 0 0 T q.2 ∧ True) := by
  unfold f_M_refresh_B121
  refine r_rv g.1 h_y0 rfl ?_
  refine r_mayAll (w' := kw_M4) g h_y0 (by decide +kernel) (fun s1 g2 g2e c3 c4 c5 => ?_) (fun s1 g2 g2e => ?_)
  · have f6 : In 0 199 (sI s1 57 52) := by rw [g2e 57 52 (by omega)]; exact hx_57_52
    have f7 : In 1 1 (sI s1 103 x1.toNatClampNeg) := by rw [g2e 103 x1.toNatClampNeg (by omega)]; exact hx_103_x1
    refine r_ifF (by decide) ?_
    refine r_ifF (by decide) ?_
    refine r_ifF (by decide) ?_
    refine r_gR g2.1 h_x0 rfl rfl (fun v13 h8 => ?_)
    refine r_aIs g2.1 h8 rfl (p := 100) rfl rfl (In_w h_x1 (by decide) (by decide) : In 0 59 x1) (by decide) (fun v14 b9 e10 => ?_)
    refine r_bIs (w' := kw_M78) g2 h8 rfl (p := 100) rfl rfl (In_w h_x1 (by decide) (by decide) : In 0 59 x1) (by decide) (fun _ _ _ q => by cases q) (fun _ => rfl) (by decide) (by decide +kernel) (fun _ => by unfold phc; omega) (fun s11 g12 e13 => ?_)
    have f14 : In 0 199 (sI s11 57 52) := In_ne e13 (by omega) f6
    have f15 : In 1 1 (sI s11 103 x1.toNatClampNeg) := In_ne e13 (by omega) f7
    refine r_gR g12.1 h_x0 rfl rfl (fun v16 h16 => ?_)
    refine r_gIs g12.1 h_x0 rfl (p := 57) rfl (fun v17 b17 e18 => ?_)
    refine r_bIs (w' := kw_M79) g12 h16 rfl (p := 101) rfl rfl (In_w h_x1 (by decide) (by decide) : In 0 59 x1) (by decide) (fun _ _ _ q => by cases q) (fun _ => rfl) (by decide) (by decide +kernel) (fun _ => by unfold phc; omega) (fun s19 g20 e21 => ?_)
    have f22 : In 0 199 (sI s19 57 52) := In_ne e21 (by omega) f14
    have f23 : In 1 1 (sI s19 103 x1.toNatClampNeg) := In_ne e21 (by omega) f15
    refine r_rv g20.1 h_x0 rfl ?_
    refine r_bind (t_M_firstToken g20.1 h_x0 (In_w h_x1 (by decide) (by decide)) (In_w f22 (by decide) (by decide))) (fun s24 h25 => ?_)
    have g26 : Rl T kw_M80 S0 0 0 T s24 := Rltrans g20 h25 (by decide +kernel)
    have f27 : In 1 1 (sI s24 103 x1.toNatClampNeg) := In_fr h25 h_x0 (j := 51) rfl rfl (by decide) (by decide +kernel) f23
    refine r_gR g26.1 h_x0 rfl rfl (fun v21 h28 => ?_)
    refine r_gR g26.1 h_x0 rfl rfl (fun v22 h29 => ?_)
    refine r_gR g26.1 h_x0 rfl rfl (fun v23 h30 => ?_)
    refine r_aIs g26.1 h30 rfl (p := 99) rfl rfl (In_w h_x1 (by decide) (by decide) : In 0 59 x1) (by decide) (fun v24 b31 e32 => ?_)
    have q33 : In 0 59 v24 := b31 _ _ rfl
    refine r_aIs g26.1 h29 rfl (p := 93) rfl rfl (In_w q33 (by decide) (by decide) : In 0 59 v24) (by decide) (fun v25 b34 e35 => ?_)
    have q36 : In 0 59 v25 := b34 _ _ rfl
    refine r_gIs g26.1 h_x0 rfl (p := 57) rfl (fun v26 b37 e38 => ?_)
    refine r_bIs (w' := kw_M81) g26 h28 rfl (p := 87) rfl rfl (In_w q36 (by decide) (by decide) : In 0 59 v25) (by decide) (fun _ _ _ q => by cases q) (fun _ => rfl) (by decide) (by decide +kernel) (fun _ => by unfold phc; omega) (fun s39 g40 e41 => ?_)
    have f42 : In 1 1 (sI s39 103 x1.toNatClampNeg) := In_ne e41 (by omega) f27
    refine r_gR g40.1 h_x0 rfl rfl (fun v28 h43 => ?_)
    refine r_aIs g40.1 h43 rfl (p := 100) rfl rfl (In_w h_x1 (by decide) (by decide) : In 0 59 x1) (by decide) (fun v29 b44 e45 => ?_)
    exact r_some ⟨(Rlweak g40 (by decide +kernel) (by decide) (by decide)), trivial⟩
  · have f46 : In 0 199 (sI s1 57 52) := by rw [g2e 57 52 (by omega)]; exact hx_57_52
    have f47 : In 1 1 (sI s1 103 x1.toNatClampNeg) := by rw [g2e 103 x1.toNatClampNeg (by omega)]; exact hx_103_x1
    refine r_ifT (by decide) ?_
    exact r_some ⟨(Rlweak g2 (by decide +kernel) (by decide) (by decide)), trivial⟩
theorem t_M_refresh_B121_3c1_4c0_5t100_6c1_7c1_8c1 {T : Nat → Nat} {S0 S : AS} (g : Rl T [] S0 0 0 T S) {x0 : Option Nat} {x1 : Int32} {x2 : Int32} {y0 : Option Nat} (h_x0 : Tx T 100 x0) (h_x1 : In 0 59 x1) (h_x2 : In 0 2147483647 x2) (h_y0 : Tx T 100 y0) (hx_103_x1 : In 1 1 (sI S 103 x1.toNatClampNeg)) (hfph0 : Ph S0 ≤ 1100) : Ho (f_M_refresh_B121  S x0 x1 x2 (1 : Int32) (0 : Int32) y0 (1 : Int32) (1 : Int32) (1 : Int32)) (fun q => Rl T kw_M82 S0 0 0 T q.2 ∧ True) := by
  unfold f_M_refresh_B121
  refine r_rv g.1 h_y0 rfl ?_
  refine r_mayAll (w' := kw_M4) g h_y0 (by decide +kernel) (fun s1 g2 g2e c3 c4 c5 => ?_) (fun s1 g2 g2e => ?_)
  · have f6 : In 1 1 (sI s1 103 x1.toNatClampNeg) := by rw [g2e 103 x1.toNatClampNeg (by omega)]; exact hx_103_x1
    refine r_ifF (by decide) ?_
    refine r_ifF (by decide) ?_
    refine r_ifT (by decide) ?_
    refine r_gR g2.1 h_x0 rfl rfl (fun v6 h7 => ?_)
    refine r_aIs g2.1 h7 rfl (p := 100) rfl rfl (In_w h_x1 (by decide) (by decide) : In 0 59 x1) (by decide) (fun v7 b8 e9 => ?_)
    refine r_if (fun c10 => ?_) (fun c10 => ?_)
    · refine r_gIs g2.1 h_x0 rfl (p := 57) rfl (fun v8 b11 e12 => ?_)
      refine r_gR g2.1 h_x0 rfl rfl (fun v9 h13 => ?_)
      refine r_aIs g2.1 h13 rfl (p := 101) rfl rfl (In_w h_x1 (by decide) (by decide) : In 0 59 x1) (by decide) (fun v10 b14 e15 => ?_)
      refine r_if (fun c16 => ?_) (fun c16 => ?_)
      · exact t_M_refresh_B227 (Rlweak g2 (by decide +kernel) (by decide) (by decide))  h_x0 (In_w h_x1 (by decide) (by decide)) (In_w f6 (by decide) (by decide)) (Int.le_trans hfph0 (by decide))
      · refine r_gR g2.1 h_x0 rfl rfl (fun v11 h17 => ?_)
        refine r_aIs g2.1 h17 rfl (p := 100) rfl rfl (In_w h_x1 (by decide) (by decide) : In 0 59 x1) (by decide) (fun v12 b18 e19 => ?_)
        exact r_some ⟨(Rlweak g2 (by decide +kernel) (by decide) (by decide)), trivial⟩
    · exact t_M_refresh_B227 (Rlweak g2 (by decide +kernel) (by decide) (by decide))  h_x0 (In_w h_x1 (by decide) (by decide)) (In_w f6 (by decide) (by decide)) (Int.le_trans hfph0 (by decide))
  · have f20 : In 1 1 (sI s1 103 x1.toNatClampNeg) := by rw [g2e 103 x1.toNatClampNeg (by omega)]; exact hx_103_x1
    refine r_ifT (by decide) ?_
    exact r_some ⟨(Rlweak g2 (by decide +kernel) (by decide) (by decide)), trivial⟩
theorem t_M_refresh_B121_3c0_4c0_5t100_6c1_7c1_8c1 {T : Nat → Nat} {S0 S : AS} (g : Rl T [] S0 0 0 T S) {x0 : Option Nat} {x1 : Int32} {x2 : Int32} {y0 : Option Nat} (h_x0 : Tx T 100 x0) (h_x1 : In 0 59 x1) (h_x2 : In 0 2147483647 x2) (h_y0 : Tx T 100 y0) (hx_103_x1 : In 0 1 (sI S 103 x1.toNatClampNeg)) (hfph0 : Ph S0 ≤ 1100) : Ho (f_M_refresh_B121  S x0 x1 x2 (0 : Int32) (0 : Int32) y0 (1 : Int32) (1 : Int32) (1 : Int32)) (fun q => Rl T kw_M82 S0 0 0 T q.2 ∧ True) := by
  unfold f_M_refresh_B121
  refine r_rv g.1 h_y0 rfl ?_
  refine r_mayAll (w' := kw_M4) g h_y0 (by decide +kernel) (fun s1 g2 g2e c3 c4 c5 => ?_) (fun s1 g2 g2e => ?_)
  · have f6 : In 0 1 (sI s1 103 x1.toNatClampNeg) := by rw [g2e 103 x1.toNatClampNeg (by omega)]; exact hx_103_x1
    refine r_ifF (by decide) ?_
    refine r_ifT (by decide) ?_
    exact r_some ⟨(Rlweak g2 (by decide +kernel) (by decide) (by decide)), trivial⟩
  · have f7 : In 0 1 (sI s1 103 x1.toNatClampNeg) := by rw [g2e 103 x1.toNatClampNeg (by omega)]; exact hx_103_x1
    refine r_ifT (by decide) ?_
    exact r_some ⟨(Rlweak g2 (by decide +kernel) (by decide) (by decide)), trivial⟩
theorem t_M_refresh_B121_3c1_4c0_5t100_6c1_7c0_8c1 {T : Nat → Nat} {S0 S : AS} (g : Rl T [] S0 0 0 T S) {x0 : Option Nat} {x1 : Int32} {x2 : Int32} {y0 : Option Nat} (h_x0 : Tx T 100 x0) (h_x1 : In 0 59 x1) (h_y0 : Tx T 100 y0) (hx_103_x1 : In 1 1 (sI S 103 x1.toNatClampNeg)) (hfph0 : Ph S0 ≤ 1100) : Ho (f_M_refresh_B121  S x0 x1 x2 (1 : Int32) (0 : Int32) y0 (1 : Int32) (0 : Int32) (1 : Int32)) (fun q => Rl T kw_M82 S0 0 0 T q.2 ∧ True) := by
  unfold f_M_refresh_B121
  refine r_rv g.1 h_y0 rfl ?_
  refine r_mayAll (w' := kw_M4) g h_y0 (by decide +kernel) (fun s1 g2 g2e c3 c4 c5 => ?_) (fun s1 g2 g2e => ?_)
  · exact absurd rfl c4
  · have f6 : In 1 1 (sI s1 103 x1.toNatClampNeg) := by rw [g2e 103 x1.toNatClampNeg (by omega)]; exact hx_103_x1
    refine r_ifT (by decide) ?_
    exact r_some ⟨(Rlweak g2 (by decide +kernel) (by decide) (by decide)), trivial⟩
theorem t_M_refresh_B121_3c0_4c0_5t100_6c1_7c0_8c1 {T : Nat → Nat} {S0 S : AS} (g : Rl T [] S0 0 0 T S) {x0 : Option Nat} {x1 : Int32} {x2 : Int32} {y0 : Option Nat} (h_x0 : Tx T 100 x0) (h_x1 : In 0 59 x1) (h_y0 : Tx T 100 y0) (hx_103_x1 : In 0 1 (sI S 103 x1.toNatClampNeg)) (hfph0 : Ph S0 ≤ 1100) : Ho (f_M_refresh_B121  S x0 x1 x2 (0 : Int32) (0 : Int32) y0 (1 : Int32) (0 : Int32) (1 : Int32)) (fun q => Rl T kw_M82 S0 0 0 T q.2 ∧ True) := by
  unfold f_M_refresh_B121
  refine r_rv g.1 h_y0 rfl ?_
  refine r_mayAll (w' := kw_M4) g h_y0 (by decide +kernel) (fun s1 g2 g2e c3 c4 c5 => ?_) (fun s1 g2 g2e => ?_)
  · exact absurd rfl c4
  · have f6 : In 0 1 (sI s1 103 x1.toNatClampNeg) := by rw [g2e 103 x1.toNatClampNeg (by omega)]; exact hx_103_x1
    refine r_ifT (by decide) ?_
    exact r_some ⟨(Rlweak g2 (by decide +kernel) (by decide) (by decide)), trivial⟩
theorem t_M_refresh_B121_3c0_4c0_5t100_6c0_7c0_8c1 {T : Nat → Nat} {S0 S : AS} (g : Rl T [] S0 0 0 T S) {x0 : Option Nat} {x1 : Int32} {x2 : Int32} {y0 : Option Nat} (h_x0 : Tx T 100 x0) (h_y0 : Tx T 100 y0) (hfph0 : Ph S0 ≤ 1100) : Ho (f_M_refresh_B121  S x0 x1 x2 (0 : Int32) (0 : Int32) y0 (0 : Int32) (0 : Int32) (1 : Int32)) (fun q => Rl T kw_M82 S0 0 0 T q.2 ∧ True) := by
  unfold f_M_refresh_B121
  refine r_rv g.1 h_y0 rfl ?_
  refine r_mayAll (w' := kw_M4) g h_y0 (by decide +kernel) (fun s1 g2 g2e c3 c4 c5 => ?_) (fun s1 g2 g2e => ?_)
  · exact absurd rfl c3
  · refine r_ifT (by decide) ?_
    exact r_some ⟨(Rlweak g2 (by decide +kernel) (by decide) (by decide)), trivial⟩
theorem t_M_refresh_B116_3c1_4c1_5t100_6c1_7c1 {T : Nat → Nat} {S0 S : AS} (g : Rl T [] S0 0 0 T S) {x0 : Option Nat} {x1 : Int32} {x2 : Int32} {y0 : Option Nat} (h_x0 : Tx T 100 x0) (h_x1 : In 0 59 x1) (h_x2 : In 0 2147483647 x2) (h_y0 : Tx T 100 y0) (hx_57_52 : In 0 199 (sI S 57 52)) (hx_103_x1 : In 1 1 (sI S 103 x1.toNatClampNeg)) (hfph0 : Ph S0 ≤ 1100) : Ho (f_M_refresh_B116  S x0 x1 x2 (1 : Int32) (1 : Int32) y0 (1 : Int32) (1 : Int32)) (fun q => Rl T kw_M82 S0 0 0 T q.2 ∧ True) := by
  unfold f_M_refresh_B116
  exact t_M_refresh_B121_3c1_4c1_5t100_6c1_7c1_8c1 (Rlweak g (by decide +kernel) (by decide) (by decide))  h_x0 (In_w h_x1 (by decide) (by decide)) (In_w h_x2 (by decide) (by decide)) h_y0 (In_w hx_57_52 (by decide) (by decide)) (In_w hx_103_x1 (by decide) (by decide)) (Int.le_trans hfph0 (by decide))
theorem t_M_refresh_B116_3c1_4c0_5t100_6c1_7c1 {T : Nat → Nat} {S0 S : AS} (g : Rl T [] S0 0 0 T S) {x0 : Option Nat} {x1 : Int32} {x2 : Int32} {y0 : Option Nat} (h_x0 : Tx T 100 x0) (h_x1 : In 0 59 x1) (h_x2 : In 0 2147483647 x2) (h_y0 : Tx T 100 y0) (hx_103_x1 : In 1 1 (sI S 103 x1.toNatClampNeg)) (hfph0 : Ph S0 ≤ 1100) : Ho (f_M_refresh_B116  S x0 x1 x2 (1 : Int32) (0 : Int32) y0 (1 : Int32) (1 : Int32)) (fun q => Rl T kw_M82 S0 0 0 T q.2 ∧ True) := by
  unfold f_M_refresh_B116
  exact t_M_refresh_B121_3c1_4c0_5t100_6c1_7c1_8c1 (Rlweak g (by decide +kernel) (by decide) (by decide))  h_x0 (In_w h_x1 (by decide) (by decide)) (In_w h_x2 (by decide) (by decide)) h_y0 (In_w hx_103_x1 (by decide) (by decide)) (Int.le_trans hfph0 (by decide))
theorem t_M_refresh_B116_3c0_4c0_5t100_6c1_7c1 {T : Nat → Nat} {S0 S : AS} (g : Rl T [] S0 0 0 T S) {x0 : Option Nat} {x1 : Int32} {x2 : Int32} {y0 : Option Nat} (h_x0 : Tx T 100 x0) (h_x1 : In 0 59 x1) (h_x2 : In 0 2147483647 x2) (h_y0 : Tx T 100 y0) (hx_103_x1 : In 0 1 (sI S 103 x1.toNatClampNeg)) (hfph0 : Ph S0 ≤ 1100) : Ho (f_M_refresh_B116  S x0 x1 x2 (0 : Int32) (0 : Int32) y0 (1 : Int32) (1 : Int32)) (fun q => Rl T kw_M82 S0 0 0 T q.2 ∧ True) := by
  unfold f_M_refresh_B116
  exact t_M_refresh_B121_3c0_4c0_5t100_6c1_7c1_8c1 (Rlweak g (by decide +kernel) (by decide) (by decide))  h_x0 (In_w h_x1 (by decide) (by decide)) (In_w h_x2 (by decide) (by decide)) h_y0 (In_w hx_103_x1 (by decide) (by decide)) (Int.le_trans hfph0 (by decide))
theorem t_M_refresh_B116_3c1_4c0_5t100_6c1_7c0 {T : Nat → Nat} {S0 S : AS} (g : Rl T [] S0 0 0 T S) {x0 : Option Nat} {x1 : Int32} {x2 : Int32} {y0 : Option Nat} (h_x0 : Tx T 100 x0) (h_x1 : In 0 59 x1) (h_y0 : Tx T 100 y0) (hx_103_x1 : In 1 1 (sI S 103 x1.toNatClampNeg)) (hfph0 : Ph S0 ≤ 1100) : Ho (f_M_refresh_B116  S x0 x1 x2 (1 : Int32) (0 : Int32) y0 (1 : Int32) (0 : Int32)) (fun q => Rl T kw_M82 S0 0 0 T q.2 ∧ True) := by
  unfold f_M_refresh_B116
  exact t_M_refresh_B121_3c1_4c0_5t100_6c1_7c0_8c1 (Rlweak g (by decide +kernel) (by decide) (by decide))  h_x0 (In_w h_x1 (by decide) (by decide)) h_y0 (In_w hx_103_x1 (by decide) (by decide)) (Int.le_trans hfph0 (by decide))
theorem t_M_refresh_B116_3c0_4c0_5t100_6c1_7c0 {T : Nat → Nat} {S0 S : AS} (g : Rl T [] S0 0 0 T S) {x0 : Option Nat} {x1 : Int32} {x2 : Int32} {y0 : Option Nat} (h_x0 : Tx T 100 x0) (h_x1 : In 0 59 x1) (h_y0 : Tx T 100 y0) (hx_103_x1 : In 0 1 (sI S 103 x1.toNatClampNeg)) (hfph0 : Ph S0 ≤ 1100) : Ho (f_M_refresh_B116  S x0 x1 x2 (0 : Int32) (0 : Int32) y0 (1 : Int32) (0 : Int32)) (fun q => Rl T kw_M82 S0 0 0 T q.2 ∧ True) := by
  unfold f_M_refresh_B116
  exact t_M_refresh_B121_3c0_4c0_5t100_6c1_7c0_8c1 (Rlweak g (by decide +kernel) (by decide) (by decide))  h_x0 (In_w h_x1 (by decide) (by decide)) h_y0 (In_w hx_103_x1 (by decide) (by decide)) (Int.le_trans hfph0 (by decide))
theorem t_M_refresh_B116_3c0_4c0_5t100_6c0_7c0 {T : Nat → Nat} {S0 S : AS} (g : Rl T [] S0 0 0 T S) {x0 : Option Nat} {x1 : Int32} {x2 : Int32} {y0 : Option Nat} (h_x0 : Tx T 100 x0) (h_y0 : Tx T 100 y0) (hfph0 : Ph S0 ≤ 1100) : Ho (f_M_refresh_B116  S x0 x1 x2 (0 : Int32) (0 : Int32) y0 (0 : Int32) (0 : Int32)) (fun q => Rl T kw_M82 S0 0 0 T q.2 ∧ True) := by
  unfold f_M_refresh_B116
  exact t_M_refresh_B121_3c0_4c0_5t100_6c0_7c0_8c1 (Rlweak g (by decide +kernel) (by decide) (by decide))  h_x0 h_y0 (Int.le_trans hfph0 (by decide))
theorem t_M_refresh_B95_3c1_4c1_5c1_6c1 {T : Nat → Nat} {S0 S : AS} (g : Rl T [] S0 0 0 T S) {x0 : Option Nat} {x1 : Int32} {x2 : Int32} (h_x0 : Tx T 100 x0) (h_x1 : In 0 59 x1) (h_x2 : In 0 2147483647 x2) (hx_103_x1 : In 1 1 (sI S 103 x1.toNatClampNeg)) (hfph0 : Ph S0 ≤ 1100) : Ho (f_M_refresh_B95  S x0 x1 x2 (1 : Int32) (1 : Int32) (1 : Int32) (1 : Int32)) (fun q => Rl T kw_M82 S0 0 0 T q.2 ∧ True) := by
  unfold f_M_refresh_B95
  refine r_ifF (by decide) ?_
  refine r_gIs g.1 h_x0 rfl (p := 57) rfl (fun v30 b1 e2 => ?_)
  have q3 : In 0 200 v30 := b1 _ _ rfl
  refine r_if (fun c4 => ?_) (fun c4 => ?_)
  · have q5 : In 200 200 v30 := In_w (In_le2 c4 (by decide : In 200 200 (200 : Int32)) q3) (by decide) (by decide)
    exact t_M_refresh_B121_3c1_4c1_5t100_6c1_7c1_8c0 (Rlweak g (by decide +kernel) (by decide) (by decide))  h_x0 (In_w h_x1 (by decide) (by decide)) (In_w h_x2 (by decide) (by decide)) h_x0 (In_w (In_cell e2 q5) (by decide) (by decide)) (In_w hx_103_x1 (by decide) (by decide)) (Int.le_trans hfph0 (by decide))
  · have q6 : In 0 199 v30 := In_w (In_lt1 (Int32.not_le.mp c4) q3 (by decide : In 200 200 (200 : Int32))) (by decide) (by decide)
    exact t_M_refresh_B116_3c1_4c1_5t100_6c1_7c1 (Rlweak g (by decide +kernel) (by decide) (by decide))  h_x0 (In_w h_x1 (by decide) (by decide)) (In_w h_x2 (by decide) (by decide)) h_x0 (In_w (In_cell e2 q6) (by decide) (by decide)) (In_w hx_103_x1 (by decide) (by decide)) (Int.le_trans hfph0 (by decide))
theorem t_M_refresh_B95_3c1_4c1_5c1_6c0 {T : Nat → Nat} {S0 S : AS} (g : Rl T [] S0 0 0 T S) {x0 : Option Nat} {x1 : Int32} {x2 : Int32} (h_x0 : Tx T 100 x0) (h_x1 : In 0 59 x1) (h_x2 : In 0 2147483647 x2) (hx_103_x1 : In 1 1 (sI S 103 x1.toNatClampNeg)) (hfph0 : Ph S0 ≤ 1100) : Ho (f_M_refresh_B95  S x0 x1 x2 (1 : Int32) (1 : Int32) (1 : Int32) (0 : Int32)) (fun q => Rl T kw_M82 S0 0 0 T q.2 ∧ True) := by
  unfold f_M_refresh_B95
  refine r_ifT (by decide) ?_
  exact t_M_refresh_B116_3c1_4c0_5t100_6c1_7c1 (Rlweak g (by decide +kernel) (by decide) (by decide))  h_x0 (In_w h_x1 (by decide) (by decide)) (In_w h_x2 (by decide) (by decide)) h_x0 (In_w hx_103_x1 (by decide) (by decide)) (Int.le_trans hfph0 (by decide))
theorem t_M_refresh_B95_3c1_4c1_5c0_6c0 {T : Nat → Nat} {S0 S : AS} (g : Rl T [] S0 0 0 T S) {x0 : Option Nat} {x1 : Int32} {x2 : Int32} (h_x0 : Tx T 100 x0) (h_x1 : In 0 59 x1) (h_x2 : In 0 2147483647 x2) (hx_103_x1 : In 0 1 (sI S 103 x1.toNatClampNeg)) (hfph0 : Ph S0 ≤ 1100) : Ho (f_M_refresh_B95  S x0 x1 x2 (1 : Int32) (1 : Int32) (0 : Int32) (0 : Int32)) (fun q => Rl T kw_M82 S0 0 0 T q.2 ∧ True) := by
  unfold f_M_refresh_B95
  refine r_ifT (by decide) ?_
  exact t_M_refresh_B116_3c0_4c0_5t100_6c1_7c1 (Rlweak g (by decide +kernel) (by decide) (by decide))  h_x0 (In_w h_x1 (by decide) (by decide)) (In_w h_x2 (by decide) (by decide)) h_x0 (In_w hx_103_x1 (by decide) (by decide)) (Int.le_trans hfph0 (by decide))
theorem t_M_refresh_B95_3c1_4c0_5c1_6c0 {T : Nat → Nat} {S0 S : AS} (g : Rl T [] S0 0 0 T S) {x0 : Option Nat} {x1 : Int32} {x2 : Int32} (h_x0 : Tx T 100 x0) (h_x1 : In 0 59 x1) (hx_103_x1 : In 1 1 (sI S 103 x1.toNatClampNeg)) (hfph0 : Ph S0 ≤ 1100) : Ho (f_M_refresh_B95  S x0 x1 x2 (1 : Int32) (0 : Int32) (1 : Int32) (0 : Int32)) (fun q => Rl T kw_M82 S0 0 0 T q.2 ∧ True) := by
  unfold f_M_refresh_B95
  refine r_ifT (by decide) ?_
  exact t_M_refresh_B116_3c1_4c0_5t100_6c1_7c0 (Rlweak g (by decide +kernel) (by decide) (by decide))  h_x0 (In_w h_x1 (by decide) (by decide)) h_x0 (In_w hx_103_x1 (by decide) (by decide)) (Int.le_trans hfph0 (by decide))
theorem t_M_refresh_B95_3c1_4c0_5c0_6c0 {T : Nat → Nat} {S0 S : AS} (g : Rl T [] S0 0 0 T S) {x0 : Option Nat} {x1 : Int32} {x2 : Int32} (h_x0 : Tx T 100 x0) (h_x1 : In 0 59 x1) (hx_103_x1 : In 0 1 (sI S 103 x1.toNatClampNeg)) (hfph0 : Ph S0 ≤ 1100) : Ho (f_M_refresh_B95  S x0 x1 x2 (1 : Int32) (0 : Int32) (0 : Int32) (0 : Int32)) (fun q => Rl T kw_M82 S0 0 0 T q.2 ∧ True) := by
  unfold f_M_refresh_B95
  refine r_ifT (by decide) ?_
  exact t_M_refresh_B116_3c0_4c0_5t100_6c1_7c0 (Rlweak g (by decide +kernel) (by decide) (by decide))  h_x0 (In_w h_x1 (by decide) (by decide)) h_x0 (In_w hx_103_x1 (by decide) (by decide)) (Int.le_trans hfph0 (by decide))
theorem t_M_refresh_B95_3c0_4c0_5c0_6c0 {T : Nat → Nat} {S0 S : AS} (g : Rl T [] S0 0 0 T S) {x0 : Option Nat} {x1 : Int32} {x2 : Int32} (h_x0 : Tx T 100 x0) (hfph0 : Ph S0 ≤ 1100) : Ho (f_M_refresh_B95  S x0 x1 x2 (0 : Int32) (0 : Int32) (0 : Int32) (0 : Int32)) (fun q => Rl T kw_M82 S0 0 0 T q.2 ∧ True) := by
  unfold f_M_refresh_B95
  refine r_ifT (by decide) ?_
  exact t_M_refresh_B116_3c0_4c0_5t100_6c0_7c0 (Rlweak g (by decide +kernel) (by decide) (by decide))  h_x0 h_x0 (Int.le_trans hfph0 (by decide))
theorem t_M_refresh_B94_3c1_4c1_5c1 {T : Nat → Nat} {S0 S : AS} (g : Rl T [] S0 0 0 T S) {x0 : Option Nat} {x1 : Int32} {x2 : Int32} (h_x0 : Tx T 100 x0) (h_x1 : In 0 59 x1) (h_x2 : In 0 2147483647 x2) (hx_103_x1 : In 1 1 (sI S 103 x1.toNatClampNeg)) (hfph0 : Ph S0 ≤ 1100) : Ho (f_M_refresh_B94  S x0 x1 x2 (1 : Int32) (1 : Int32) (1 : Int32)) (fun q => Rl T kw_M82 S0 0 0 T q.2 ∧ True) := by
  unfold f_M_refresh_B94
  exact t_M_refresh_B95_3c1_4c1_5c1_6c0 (Rlweak g (by decide +kernel) (by decide) (by decide))  h_x0 (In_w h_x1 (by decide) (by decide)) (In_w h_x2 (by decide) (by decide)) (In_w hx_103_x1 (by decide) (by decide)) (Int.le_trans hfph0 (by decide))
theorem t_M_refresh_B94_3c1_4c1_5c0 {T : Nat → Nat} {S0 S : AS} (g : Rl T [] S0 0 0 T S) {x0 : Option Nat} {x1 : Int32} {x2 : Int32} (h_x0 : Tx T 100 x0) (h_x1 : In 0 59 x1) (h_x2 : In 0 2147483647 x2) (hx_103_x1 : In 0 1 (sI S 103 x1.toNatClampNeg)) (hfph0 : Ph S0 ≤ 1100) : Ho (f_M_refresh_B94  S x0 x1 x2 (1 : Int32) (1 : Int32) (0 : Int32)) (fun q => Rl T kw_M82 S0 0 0 T q.2 ∧ True) := by
  unfold f_M_refresh_B94
  exact t_M_refresh_B95_3c1_4c1_5c0_6c0 (Rlweak g (by decide +kernel) (by decide) (by decide))  h_x0 (In_w h_x1 (by decide) (by decide)) (In_w h_x2 (by decide) (by decide)) (In_w hx_103_x1 (by decide) (by decide)) (Int.le_trans hfph0 (by decide))
theorem t_M_refresh_B94_3c1_4c0_5c1 {T : Nat → Nat} {S0 S : AS} (g : Rl T [] S0 0 0 T S) {x0 : Option Nat} {x1 : Int32} {x2 : Int32} (h_x0 : Tx T 100 x0) (h_x1 : In 0 59 x1) (hx_103_x1 : In 1 1 (sI S 103 x1.toNatClampNeg)) (hfph0 : Ph S0 ≤ 1100) : Ho (f_M_refresh_B94  S x0 x1 x2 (1 : Int32) (0 : Int32) (1 : Int32)) (fun q => Rl T kw_M82 S0 0 0 T q.2 ∧ True) := by
  unfold f_M_refresh_B94
  exact t_M_refresh_B95_3c1_4c0_5c1_6c0 (Rlweak g (by decide +kernel) (by decide) (by decide))  h_x0 (In_w h_x1 (by decide) (by decide)) (In_w hx_103_x1 (by decide) (by decide)) (Int.le_trans hfph0 (by decide))
theorem t_M_refresh_B94_3c1_4c0_5c0 {T : Nat → Nat} {S0 S : AS} (g : Rl T [] S0 0 0 T S) {x0 : Option Nat} {x1 : Int32} {x2 : Int32} (h_x0 : Tx T 100 x0) (h_x1 : In 0 59 x1) (hx_103_x1 : In 0 1 (sI S 103 x1.toNatClampNeg)) (hfph0 : Ph S0 ≤ 1100) : Ho (f_M_refresh_B94  S x0 x1 x2 (1 : Int32) (0 : Int32) (0 : Int32)) (fun q => Rl T kw_M82 S0 0 0 T q.2 ∧ True) := by
  unfold f_M_refresh_B94
  exact t_M_refresh_B95_3c1_4c0_5c0_6c0 (Rlweak g (by decide +kernel) (by decide) (by decide))  h_x0 (In_w h_x1 (by decide) (by decide)) (In_w hx_103_x1 (by decide) (by decide)) (Int.le_trans hfph0 (by decide))
theorem t_M_refresh_B94_3c0_4c0_5c0 {T : Nat → Nat} {S0 S : AS} (g : Rl T [] S0 0 0 T S) {x0 : Option Nat} {x1 : Int32} {x2 : Int32} (h_x0 : Tx T 100 x0) (hfph0 : Ph S0 ≤ 1100) : Ho (f_M_refresh_B94  S x0 x1 x2 (0 : Int32) (0 : Int32) (0 : Int32)) (fun q => Rl T kw_M82 S0 0 0 T q.2 ∧ True) := by
  unfold f_M_refresh_B94
  exact t_M_refresh_B95_3c0_4c0_5c0_6c0 (Rlweak g (by decide +kernel) (by decide) (by decide))  h_x0 (Int.le_trans hfph0 (by decide))
theorem t_M_refresh_B68_3c1_4c1_5c1 {T : Nat → Nat} {S0 S : AS} (g : Rl T [] S0 0 0 T S) {x0 : Option Nat} {x1 : Int32} {x2 : Int32} (h_x0 : Tx T 100 x0) (h_x1 : In 0 59 x1) (h_x2 : In 0 2147483647 x2) (hx_103_x1 : In 1 1 (sI S 103 x1.toNatClampNeg)) (hfph0 : Ph S0 ≤ 1100) : Ho (f_M_refresh_B68  S x0 x1 x2 (1 : Int32) (1 : Int32) (1 : Int32)) (fun q => Rl T kw_M82 S0 0 0 T q.2 ∧ True) := by
  unfold f_M_refresh_B68
  refine r_ifF (by decide) ?_
  refine r_ifF (by decide) ?_
  refine r_gR g.1 h_x0 rfl rfl (fun v31 h1 => ?_)
  refine r_aIs g.1 h1 rfl (p := 100) rfl rfl (In_w h_x1 (by decide) (by decide) : In 0 59 x1) (by decide) (fun v32 b2 e3 => ?_)
  refine r_if (fun c4 => ?_) (fun c4 => ?_)
  · exact t_M_refresh_B95_3c1_4c1_5c1_6c1 (Rlweak g (by decide +kernel) (by decide) (by decide))  h_x0 (In_w h_x1 (by decide) (by decide)) (In_w h_x2 (by decide) (by decide)) (In_w hx_103_x1 (by decide) (by decide)) (Int.le_trans hfph0 (by decide))
  · exact t_M_refresh_B94_3c1_4c1_5c1 (Rlweak g (by decide +kernel) (by decide) (by decide))  h_x0 (In_w h_x1 (by decide) (by decide)) (In_w h_x2 (by decide) (by decide)) (In_w hx_103_x1 (by decide) (by decide)) (Int.le_trans hfph0 (by decide))
theorem t_M_refresh_B68_3c1_4c1_5c0 {T : Nat → Nat} {S0 S : AS} (g : Rl T [] S0 0 0 T S) {x0 : Option Nat} {x1 : Int32} {x2 : Int32} (h_x0 : Tx T 100 x0) (h_x1 : In 0 59 x1) (h_x2 : In 0 2147483647 x2) (hx_103_x1 : In 0 1 (sI S 103 x1.toNatClampNeg)) (hfph0 : Ph S0 ≤ 1100) : Ho (f_M_refresh_B68  S x0 x1 x2 (1 : Int32) (1 : Int32) (0 : Int32)) (fun q => Rl T kw_M82 S0 0 0 T q.2 ∧ True) := by
  unfold f_M_refresh_B68
  refine r_ifF (by decide) ?_
  refine r_ifT (by decide) ?_
  exact t_M_refresh_B94_3c1_4c1_5c0 (Rlweak g (by decide +kernel) (by decide) (by decide))  h_x0 (In_w h_x1 (by decide) (by decide)) (In_w h_x2 (by decide) (by decide)) (In_w hx_103_x1 (by decide) (by decide)) (Int.le_trans hfph0 (by decide))
theorem t_M_refresh_B68_3c1_4c0_5c1 {T : Nat → Nat} {S0 S : AS} (g : Rl T [] S0 0 0 T S) {x0 : Option Nat} {x1 : Int32} {x2 : Int32} (h_x0 : Tx T 100 x0) (h_x1 : In 0 59 x1) (hx_103_x1 : In 1 1 (sI S 103 x1.toNatClampNeg)) (hfph0 : Ph S0 ≤ 1100) : Ho (f_M_refresh_B68  S x0 x1 x2 (1 : Int32) (0 : Int32) (1 : Int32)) (fun q => Rl T kw_M82 S0 0 0 T q.2 ∧ True) := by
  unfold f_M_refresh_B68
  refine r_ifT (by decide) ?_
  exact t_M_refresh_B94_3c1_4c0_5c1 (Rlweak g (by decide +kernel) (by decide) (by decide))  h_x0 (In_w h_x1 (by decide) (by decide)) (In_w hx_103_x1 (by decide) (by decide)) (Int.le_trans hfph0 (by decide))
theorem t_M_refresh_B68_3c1_4c0_5c0 {T : Nat → Nat} {S0 S : AS} (g : Rl T [] S0 0 0 T S) {x0 : Option Nat} {x1 : Int32} {x2 : Int32} (h_x0 : Tx T 100 x0) (h_x1 : In 0 59 x1) (hx_103_x1 : In 0 1 (sI S 103 x1.toNatClampNeg)) (hfph0 : Ph S0 ≤ 1100) : Ho (f_M_refresh_B68  S x0 x1 x2 (1 : Int32) (0 : Int32) (0 : Int32)) (fun q => Rl T kw_M82 S0 0 0 T q.2 ∧ True) := by
  unfold f_M_refresh_B68
  refine r_ifT (by decide) ?_
  exact t_M_refresh_B94_3c1_4c0_5c0 (Rlweak g (by decide +kernel) (by decide) (by decide))  h_x0 (In_w h_x1 (by decide) (by decide)) (In_w hx_103_x1 (by decide) (by decide)) (Int.le_trans hfph0 (by decide))
theorem t_M_refresh_B68_3c0_4c0_5c0 {T : Nat → Nat} {S0 S : AS} (g : Rl T [] S0 0 0 T S) {x0 : Option Nat} {x1 : Int32} {x2 : Int32} (h_x0 : Tx T 100 x0) (hfph0 : Ph S0 ≤ 1100) : Ho (f_M_refresh_B68  S x0 x1 x2 (0 : Int32) (0 : Int32) (0 : Int32)) (fun q => Rl T kw_M82 S0 0 0 T q.2 ∧ True) := by
  unfold f_M_refresh_B68
  refine r_ifT (by decide) ?_
  exact t_M_refresh_B94_3c0_4c0_5c0 (Rlweak g (by decide +kernel) (by decide) (by decide))  h_x0 (Int.le_trans hfph0 (by decide))
theorem t_M_refresh_B67_3c1_4c1 {T : Nat → Nat} {S0 S : AS} (g : Rl T [] S0 0 0 T S) {x0 : Option Nat} {x1 : Int32} {x2 : Int32} (h_x0 : Tx T 100 x0) (h_x1 : In 0 59 x1) (h_x2 : In 0 2147483647 x2) (hx_103_x1 : In 0 1 (sI S 103 x1.toNatClampNeg)) (hfph0 : Ph S0 ≤ 1100) : Ho (f_M_refresh_B67  S x0 x1 x2 (1 : Int32) (1 : Int32)) (fun q => Rl T kw_M82 S0 0 0 T q.2 ∧ True) := by
  unfold f_M_refresh_B67
  exact t_M_refresh_B68_3c1_4c1_5c0 (Rlweak g (by decide +kernel) (by decide) (by decide))  h_x0 (In_w h_x1 (by decide) (by decide)) (In_w h_x2 (by decide) (by decide)) (In_w hx_103_x1 (by decide) (by decide)) (Int.le_trans hfph0 (by decide))
theorem t_M_refresh_B67_3c1_4c0 {T : Nat → Nat} {S0 S : AS} (g : Rl T [] S0 0 0 T S) {x0 : Option Nat} {x1 : Int32} {x2 : Int32} (h_x0 : Tx T 100 x0) (h_x1 : In 0 59 x1) (hx_103_x1 : In 0 1 (sI S 103 x1.toNatClampNeg)) (hfph0 : Ph S0 ≤ 1100) : Ho (f_M_refresh_B67  S x0 x1 x2 (1 : Int32) (0 : Int32)) (fun q => Rl T kw_M82 S0 0 0 T q.2 ∧ True) := by
  unfold f_M_refresh_B67
  exact t_M_refresh_B68_3c1_4c0_5c0 (Rlweak g (by decide +kernel) (by decide) (by decide))  h_x0 (In_w h_x1 (by decide) (by decide)) (In_w hx_103_x1 (by decide) (by decide)) (Int.le_trans hfph0 (by decide))
theorem t_M_refresh_B67_3c0_4c0 {T : Nat → Nat} {S0 S : AS} (g : Rl T [] S0 0 0 T S) {x0 : Option Nat} {x1 : Int32} {x2 : Int32} (h_x0 : Tx T 100 x0) (hfph0 : Ph S0 ≤ 1100) : Ho (f_M_refresh_B67  S x0 x1 x2 (0 : Int32) (0 : Int32)) (fun q => Rl T kw_M82 S0 0 0 T q.2 ∧ True) := by
  unfold f_M_refresh_B67
  exact t_M_refresh_B68_3c0_4c0_5c0 (Rlweak g (by decide +kernel) (by decide) (by decide))  h_x0 (Int.le_trans hfph0 (by decide))
theorem t_M_refresh_B29_3c1_4c1 {T : Nat → Nat} {S0 S : AS} (g : Rl T [] S0 0 0 T S) {x0 : Option Nat} {x1 : Int32} {x2 : Int32} (h_x0 : Tx T 100 x0) (h_x1 : In 0 59 x1) (h_x2 : In 0 2147483647 x2) (hfph0 : Ph S0 ≤ 1100) : Ho (f_M_refresh_B29  S x0 x1 x2 (1 : Int32) (1 : Int32)) (fun q => Rl T kw_M82 S0 0 0 T q.2 ∧ True) := by
  unfold f_M_refresh_B29
  refine r_ifF (by decide) ?_
  refine r_gR g.1 h_x0 rfl rfl (fun v33 h1 => ?_)
  refine r_aIs g.1 h1 rfl (p := 103) rfl rfl (In_w h_x1 (by decide) (by decide) : In 0 59 x1) (by decide) (fun v34 b2 e3 => ?_)
  have q4 : In 0 1 v34 := b2 _ _ rfl
  refine r_if (fun c5 => ?_) (fun c5 => ?_)
  · have q6 : In 0 0 v34 := In_w (In_eq c5 (by decide : In 0 0 (0 : Int32))) (by decide) (by decide)
    exact t_M_refresh_B67_3c1_4c1 (Rlweak g (by decide +kernel) (by decide) (by decide))  h_x0 (In_w h_x1 (by decide) (by decide)) (In_w h_x2 (by decide) (by decide)) (In_w (In_cell e3 q6) (by decide) (by decide)) (Int.le_trans hfph0 (by decide))
  · have q7 : In 1 1 v34 := In_w (In_neL c5 q4 (by decide)) (by decide) (by decide)
    refine r_gR g.1 h_x0 rfl rfl (fun v35 h8 => ?_)
    refine r_gR g.1 h_x0 rfl rfl (fun v36 h9 => ?_)
    refine r_gR g.1 h_x0 rfl rfl (fun v37 h10 => ?_)
    refine r_aIs g.1 h10 rfl (p := 99) rfl rfl (In_w h_x1 (by decide) (by decide) : In 0 59 x1) (by decide) (fun v38 b11 e12 => ?_)
    have q13 : In 0 59 v38 := b11 _ _ rfl
    refine r_aIs g.1 h9 rfl (p := 93) rfl rfl (In_w q13 (by decide) (by decide) : In 0 59 v38) (by decide) (fun v39 b14 e15 => ?_)
    have q16 : In 0 59 v39 := b14 _ _ rfl
    refine r_aIs g.1 h8 rfl (p := 89) rfl rfl (In_w q16 (by decide) (by decide) : In 0 59 v39) (by decide) (fun v40 b17 e18 => ?_)
    have q19 : In 0 1 v40 := b17 _ _ rfl
    refine r_if (fun c20 => ?_) (fun c20 => ?_)
    · have q21 : In 0 0 v40 := In_w (In_eq c20 (by decide : In 0 0 (0 : Int32))) (by decide) (by decide)
      exact t_M_refresh_B67_3c1_4c1 (Rlweak g (by decide +kernel) (by decide) (by decide))  h_x0 (In_w h_x1 (by decide) (by decide)) (In_w h_x2 (by decide) (by decide)) (In_w (In_cell e3 q7) (by decide) (by decide)) (Int.le_trans hfph0 (by decide))
    · have q22 : In 1 1 v40 := In_w (In_neL c20 q19 (by decide)) (by decide) (by decide)
      exact t_M_refresh_B68_3c1_4c1_5c1 (Rlweak g (by decide +kernel) (by decide) (by decide))  h_x0 (In_w h_x1 (by decide) (by decide)) (In_w h_x2 (by decide) (by decide)) (In_w (In_cell e3 q7) (by decide) (by decide)) (Int.le_trans hfph0 (by decide))
theorem t_M_refresh_B29_3c1_4c0 {T : Nat → Nat} {S0 S : AS} (g : Rl T [] S0 0 0 T S) {x0 : Option Nat} {x1 : Int32} {x2 : Int32} (h_x0 : Tx T 100 x0) (h_x1 : In 0 59 x1) (hfph0 : Ph S0 ≤ 1100) : Ho (f_M_refresh_B29  S x0 x1 x2 (1 : Int32) (0 : Int32)) (fun q => Rl T kw_M82 S0 0 0 T q.2 ∧ True) := by
  unfold f_M_refresh_B29
  refine r_ifF (by decide) ?_
  refine r_gR g.1 h_x0 rfl rfl (fun v33 h1 => ?_)
  refine r_aIs g.1 h1 rfl (p := 103) rfl rfl (In_w h_x1 (by decide) (by decide) : In 0 59 x1) (by decide) (fun v34 b2 e3 => ?_)
  have q4 : In 0 1 v34 := b2 _ _ rfl
  refine r_if (fun c5 => ?_) (fun c5 => ?_)
  · have q6 : In 0 0 v34 := In_w (In_eq c5 (by decide : In 0 0 (0 : Int32))) (by decide) (by decide)
    exact t_M_refresh_B67_3c1_4c0 (Rlweak g (by decide +kernel) (by decide) (by decide))  h_x0 (In_w h_x1 (by decide) (by decide)) (In_w (In_cell e3 q6) (by decide) (by decide)) (Int.le_trans hfph0 (by decide))
  · have q7 : In 1 1 v34 := In_w (In_neL c5 q4 (by decide)) (by decide) (by decide)
    refine r_gR g.1 h_x0 rfl rfl (fun v35 h8 => ?_)
    refine r_gR g.1 h_x0 rfl rfl (fun v36 h9 => ?_)
    refine r_gR g.1 h_x0 rfl rfl (fun v37 h10 => ?_)
    refine r_aIs g.1 h10 rfl (p := 99) rfl rfl (In_w h_x1 (by decide) (by decide) : In 0 59 x1) (by decide) (fun v38 b11 e12 => ?_)
    have q13 : In 0 59 v38 := b11 _ _ rfl
    refine r_aIs g.1 h9 rfl (p := 93) rfl rfl (In_w q13 (by decide) (by decide) : In 0 59 v38) (by decide) (fun v39 b14 e15 => ?_)
    have q16 : In 0 59 v39 := b14 _ _ rfl
    refine r_aIs g.1 h8 rfl (p := 89) rfl rfl (In_w q16 (by decide) (by decide) : In 0 59 v39) (by decide) (fun v40 b17 e18 => ?_)
    have q19 : In 0 1 v40 := b17 _ _ rfl
    refine r_if (fun c20 => ?_) (fun c20 => ?_)
    · have q21 : In 0 0 v40 := In_w (In_eq c20 (by decide : In 0 0 (0 : Int32))) (by decide) (by decide)
      exact t_M_refresh_B67_3c1_4c0 (Rlweak g (by decide +kernel) (by decide) (by decide))  h_x0 (In_w h_x1 (by decide) (by decide)) (In_w (In_cell e3 q7) (by decide) (by decide)) (Int.le_trans hfph0 (by decide))
    · have q22 : In 1 1 v40 := In_w (In_neL c20 q19 (by decide)) (by decide) (by decide)
      exact t_M_refresh_B68_3c1_4c0_5c1 (Rlweak g (by decide +kernel) (by decide) (by decide))  h_x0 (In_w h_x1 (by decide) (by decide)) (In_w (In_cell e3 q7) (by decide) (by decide)) (Int.le_trans hfph0 (by decide))
theorem t_M_refresh_B29_3c0_4c0 {T : Nat → Nat} {S0 S : AS} (g : Rl T [] S0 0 0 T S) {x0 : Option Nat} {x1 : Int32} {x2 : Int32} (h_x0 : Tx T 100 x0) (hfph0 : Ph S0 ≤ 1100) : Ho (f_M_refresh_B29  S x0 x1 x2 (0 : Int32) (0 : Int32)) (fun q => Rl T kw_M82 S0 0 0 T q.2 ∧ True) := by
  unfold f_M_refresh_B29
  refine r_ifT (by decide) ?_
  exact t_M_refresh_B67_3c0_4c0 (Rlweak g (by decide +kernel) (by decide) (by decide))  h_x0 (Int.le_trans hfph0 (by decide))
theorem t_M_refresh_B28_3c1 {T : Nat → Nat} {S0 S : AS} (g : Rl T [] S0 0 0 T S) {x0 : Option Nat} {x1 : Int32} {x2 : Int32} (h_x0 : Tx T 100 x0) (h_x1 : In 0 59 x1) (hfph0 : Ph S0 ≤ 1100) : Ho (f_M_refresh_B28  S x0 x1 x2 (1 : Int32)) (fun q => Rl T kw_M82 S0 0 0 T q.2 ∧ True) := by
  unfold f_M_refresh_B28
  exact t_M_refresh_B29_3c1_4c0 (Rlweak g (by decide +kernel) (by decide) (by decide))  h_x0 (In_w h_x1 (by decide) (by decide)) (Int.le_trans hfph0 (by decide))
theorem t_M_refresh_B28_3c0 {T : Nat → Nat} {S0 S : AS} (g : Rl T [] S0 0 0 T S) {x0 : Option Nat} {x1 : Int32} {x2 : Int32} (h_x0 : Tx T 100 x0) (hfph0 : Ph S0 ≤ 1100) : Ho (f_M_refresh_B28  S x0 x1 x2 (0 : Int32)) (fun q => Rl T kw_M82 S0 0 0 T q.2 ∧ True) := by
  unfold f_M_refresh_B28
  exact t_M_refresh_B29_3c0_4c0 (Rlweak g (by decide +kernel) (by decide) (by decide))  h_x0 (Int.le_trans hfph0 (by decide))
theorem t_M_refresh {T : Nat → Nat} {S : AS} (hT : TI T S) {a0 : Option Nat} {a1 : Int32} {a2 : Int32} (h_a0 : Tx T 100 a0) (hfph0 : Ph S ≤ 1100) : Ho (f_M_refresh  S a0 a1 a2) (fun q => Rl T kw_M82 S 0 0 T q.2 ∧ True) := by
  have g0 := Rlrf hT
  unfold f_M_refresh
  refine r_rv g0.1 h_a0 rfl ?_
  refine r_spl (u_isFamily g0.1 h_a0) (fun q1 => ?_) ?_
  · have q2 : In 0 59 a1 := In_w q1.1 (by decide) (by decide)
    refine r_ifF (by decide) ?_
    refine r_gR g0.1 h_a0 rfl rfl (fun v44 h3 => ?_)
    refine r_aIs g0.1 h3 rfl (p := 100) rfl rfl (In_w q2 (by decide) (by decide) : In 0 59 a1) (by decide) (fun v45 b4 e5 => ?_)
    refine r_Mi (fun p6 p6b => ?_) ?_
    · have q7 : In 0 2147483647 a2 := In_w (In_le2 p6 (by decide : In 0 0 (0 : Int32)) (In_top a2)) (by decide) (by decide)
      refine r_ifF (by decide) ?_
      exact t_M_refresh_B29_3c1_4c1 (Rlweak g0 (by decide +kernel) (by decide) (by decide))  h_a0 (In_w q2 (by decide) (by decide)) (In_w q7 (by decide) (by decide)) (Int.le_trans hfph0 (by decide))
    · refine r_ifT (by decide) ?_
      exact t_M_refresh_B28_3c1 (Rlweak g0 (by decide +kernel) (by decide) (by decide))  h_a0 (In_w q2 (by decide) (by decide)) (Int.le_trans hfph0 (by decide))
  · refine r_ifT (by decide) ?_
    exact t_M_refresh_B28_3c0 (Rlweak g0 (by decide +kernel) (by decide) (by decide))  h_a0 (Int.le_trans hfph0 (by decide))
theorem t_M_isGood {T : Nat → Nat} {S : AS} (hT : TI T S) {a0 : Option Nat} {a1 : Int32} (h_a0 : Tx T 100 a0) : Ho (f_M_isGood  S a0 a1) (fun q => Rl T kw_M4 S 0 0 T q.2 ∧ In 0 1 q.1) := by
  have g0 := Rlrf hT
  unfold f_M_isGood
  refine r_rv g0.1 h_a0 rfl ?_
  refine r_spl (u_isFamily g0.1 h_a0) (fun q1 => ?_) ?_
  · have q2 : In 0 59 a1 := In_w q1.1 (by decide) (by decide)
    refine r_rv g0.1 h_a0 rfl ?_
    refine r_may (w' := kw_M4) g0 h_a0 (In_w (by decide : In 1 1 (1 : Int32)) (by decide) (by decide)) (by decide +kernel) (fun s3 g4 g4e c5 => ?_) (fun s3 g4 g4e => ?_)
    · refine r_ifF (by decide) ?_
      refine r_gR g4.1 h_a0 rfl rfl (fun v7 h6 => ?_)
      refine r_aIs g4.1 h6 rfl (p := 103) rfl rfl (In_w q2 (by decide) (by decide) : In 0 59 a1) (by decide) (fun v8 b7 e8 => ?_)
      have q9 : In 0 1 v8 := b7 _ _ rfl
      refine r_if (fun c10 => ?_) (fun c10 => ?_)
      · have q11 : In 0 0 v8 := In_w (In_eq c10 (by decide : In 0 0 (0 : Int32))) (by decide) (by decide)
        exact r_some ⟨(Rlweak g4 (by decide +kernel) (by decide) (by decide)), (In_w (by decide : In 0 0 (0 : Int32)) (by decide) (by decide))⟩
      · have q12 : In 1 1 v8 := In_w (In_neL c10 q9 (by decide)) (by decide) (by decide)
        exact r_some ⟨(Rlweak g4 (by decide +kernel) (by decide) (by decide)), (In_w (by decide : In 1 1 (1 : Int32)) (by decide) (by decide))⟩
    · refine r_ifT (by decide) ?_
      exact r_some ⟨(Rlweak g4 (by decide +kernel) (by decide) (by decide)), (In_w (by decide : In 0 0 (0 : Int32)) (by decide) (by decide))⟩
  · refine r_rv g0.1 h_a0 rfl ?_
    refine r_may (w' := kw_M4) g0 h_a0 (In_w (by decide : In 0 0 (0 : Int32)) (by decide) (by decide)) (by decide +kernel) (fun s13 g14 g14e c15 => ?_) (fun s13 g14 g14e => ?_)
    · exact absurd rfl c15
    · refine r_ifT (by decide) ?_
      exact r_some ⟨(Rlweak g14 (by decide +kernel) (by decide) (by decide)), (In_w (by decide : In 0 0 (0 : Int32)) (by decide) (by decide))⟩
theorem t_M_tokenOf {T : Nat → Nat} {S : AS} (hT : TI T S) {a0 : Option Nat} {a1 : Int32} (h_a0 : Tx T 100 a0) : Ho (f_M_tokenOf  S a0 a1) (fun q => Rl T kw_M4 S 0 0 T q.2 ∧ True) := by
  have g0 := Rlrf hT
  unfold f_M_tokenOf
  refine r_rv g0.1 h_a0 rfl ?_
  refine r_spl (u_isFamily g0.1 h_a0) (fun q1 => ?_) ?_
  · have q2 : In 0 59 a1 := In_w q1.1 (by decide) (by decide)
    refine r_rv g0.1 h_a0 rfl ?_
    refine r_may (w' := kw_M4) g0 h_a0 (In_w (by decide : In 1 1 (1 : Int32)) (by decide) (by decide)) (by decide +kernel) (fun s3 g4 g4e c5 => ?_) (fun s3 g4 g4e => ?_)
    · refine r_ifF (by decide) ?_
      refine r_gR g4.1 h_a0 rfl rfl (fun v7 h6 => ?_)
      refine r_aIs g4.1 h6 rfl (p := 102) rfl rfl (In_w q2 (by decide) (by decide) : In 0 59 a1) (by decide) (fun v8 b7 e8 => ?_)
      exact r_some ⟨(Rlweak g4 (by decide +kernel) (by decide) (by decide)), trivial⟩
    · refine r_ifT (by decide) ?_
      exact r_some ⟨(Rlweak g4 (by decide +kernel) (by decide) (by decide)), trivial⟩
  · refine r_rv g0.1 h_a0 rfl ?_
    refine r_may (w' := kw_M4) g0 h_a0 (In_w (by decide : In 0 0 (0 : Int32)) (by decide) (by decide)) (by decide +kernel) (fun s9 g10 g10e c11 => ?_) (fun s9 g10 g10e => ?_)
    · exact absurd rfl c11
    · refine r_ifT (by decide) ?_
      exact r_some ⟨(Rlweak g10 (by decide +kernel) (by decide) (by decide)), trivial⟩
theorem t_M_exchange_B114_4c1_5c1_6c1 {T : Nat → Nat} {S0 S : AS} (g : Rl T [] S0 0 0 T S) {x0 : Option Nat} {x1 : Int32} {x2 : Int32} {x3 : Int32} (h_x0 : Tx T 100 x0) (h_x1 : In 0 199 x1) (h_x2 : In 0 3 x2) (h_x3 : In 1 15 x3) (hx_57_52 : In 0 199 (sI S 57 52)) : Ho (f_M_exchange_B114  S x0 x1 x2 x3 (1 : Int32) (1 : Int32) (1 : Int32)) (fun q => Rl T kw_M83 S0 0 0 T q.2 ∧ In (-2) 199 q.1) := by
  unfold f_M_exchange_B114
  refine r_rv g.1 h_x0 rfl ?_
  refine r_mayAll (w' := kw_M4) g h_x0 (by decide +kernel) (fun s1 g2 g2e c3 c4 c5 => ?_) (fun s1 g2 g2e => ?_)
  · have f6 : In 0 199 (sI s1 57 52) := by rw [g2e 57 52 (by omega)]; exact hx_57_52
    refine r_ifF (by decide) ?_
    refine r_gR g2.1 h_x0 rfl rfl (fun v4 h7 => ?_)
    refine r_aIs g2.1 h7 rfl (p := 108) rfl rfl (In_w h_x1 (by decide) (by decide) : In 0 199 x1) (by decide) (fun v5 b8 e9 => ?_)
    have q10 : In 0 59 v5 := b8 _ _ rfl
    refine r_gR g2.1 h_x0 rfl rfl (fun v6 h11 => ?_)
    refine r_gR g2.1 h_x0 rfl rfl (fun v7 h12 => ?_)
    refine r_aIs g2.1 h12 rfl (p := 99) rfl rfl (In_w q10 (by decide) (by decide) : In 0 59 v5) (by decide) (fun v8 b13 e14 => ?_)
    have q15 : In 0 59 v8 := b13 _ _ rfl
    refine r_aIs g2.1 h11 rfl (p := 93) rfl rfl (In_w q15 (by decide) (by decide) : In 0 59 v8) (by decide) (fun v9 b16 e17 => ?_)
    have q18 : In 0 59 v9 := b16 _ _ rfl
    refine r_rv g2.1 h_x0 rfl ?_
    refine r_P (P := fun v => True) (t_M_levelNow g2.1 h_x0 (In_w q18 (by decide) (by decide))) (fun v12 h19 => ?_)
    refine r_gR g2.1 h_x0 rfl rfl (fun v13 h20 => ?_)
    refine r_aIs g2.1 h20 rfl (p := 92) rfl rfl (In_w h_x2 (by decide) (by decide) : In 0 3 x2) (by decide) (fun v14 b21 e22 => ?_)
    refine r_if (fun c23 => ?_) (fun c23 => ?_)
    · refine r_gR g2.1 h_x0 rfl rfl (fun v15 h24 => ?_)
      refine r_aIs g2.1 h24 rfl (p := 105) rfl rfl (In_w h_x1 (by decide) (by decide) : In 0 199 x1) (by decide) (fun v16 b25 e26 => ?_)
      have q27 : In 0 3 v16 := b25 _ _ rfl
      refine r_gR g2.1 h_x0 rfl rfl (fun v17 h28 => ?_)
      refine r_aIs g2.1 h28 rfl (p := 107) rfl rfl (In_w h_x1 (by decide) (by decide) : In 0 199 x1) (by decide) (fun v18 b29 e30 => ?_)
      refine r_gR g2.1 h_x0 rfl rfl (fun v19 h31 => ?_)
      refine r_aIs g2.1 h31 rfl (p := 110) rfl rfl (In_w h_x1 (by decide) (by decide) : In 0 199 x1) (by decide) (fun v20 b32 e33 => ?_)
      refine r_rv g2.1 h_x0 rfl ?_
      refine r_b2 (t_M_newToken g2.1 h_x0 (In_w q10 (by decide) (by decide)) (In_w q27 (by decide) (by decide)) (In_w h_x2 (by decide) (by decide)) (In_w f6 (by decide) (by decide))) (fun v23 s35 h34 => ?_)
      obtain ⟨g36, h34r⟩ := h34
      have g37 : Rl T kw_M83 S0 0 0 T s35 := Rltrans g2 g36 (by decide +kernel)
      exact r_some ⟨(Rlweak g37 (by decide +kernel) (by decide) (by decide)), (In_w h34r (by decide) (by decide))⟩
    · have q38 : In (-2147483648) 2147483646 v12 := In_w (In_lt1 (Int32.not_le.mp c23) (In_top v12) (In_top v14)) (by decide) (by decide)
      have q39 : In (-2147483647) 2147483647 v14 := In_w (In_lt2 (Int32.not_le.mp c23) (In_top v12) (In_top v14)) (by decide) (by decide)
      exact r_some ⟨(Rlweak g2 (by decide +kernel) (by decide) (by decide)), (In_w (by decide : In (-2) (-2) (-2 : Int32)) (by decide) (by decide))⟩
  · have f40 : In 0 199 (sI s1 57 52) := by rw [g2e 57 52 (by omega)]; exact hx_57_52
    refine r_ifT (by decide) ?_
    exact r_some ⟨(Rlweak g2 (by decide +kernel) (by decide) (by decide)), (In_w (by decide : In 0 0 (0 : Int32)) (by decide) (by decide))⟩
theorem t_M_exchange_B114_4c1_5c1_6c0 {T : Nat → Nat} {S0 S : AS} (g : Rl T [] S0 0 0 T S) {x0 : Option Nat} {x1 : Int32} {x2 : Int32} {x3 : Int32} (h_x0 : Tx T 100 x0) (h_x1 : In 0 199 x1) (h_x2 : In 0 3 x2) (h_x3 : In 1 15 x3) : Ho (f_M_exchange_B114  S x0 x1 x2 x3 (1 : Int32) (1 : Int32) (0 : Int32)) (fun q => Rl T kw_M83 S0 0 0 T q.2 ∧ In (-2) 199 q.1) := by
  unfold f_M_exchange_B114
  refine r_rv g.1 h_x0 rfl ?_
  refine r_mayAll (w' := kw_M4) g h_x0 (by decide +kernel) (fun s1 g2 g2e c3 c4 c5 => ?_) (fun s1 g2 g2e => ?_)
  · exact absurd rfl c5
  · refine r_ifT (by decide) ?_
    exact r_some ⟨(Rlweak g2 (by decide +kernel) (by decide) (by decide)), (In_w (by decide : In 0 0 (0 : Int32)) (by decide) (by decide))⟩
theorem t_M_exchange_B114_4c1_5c0_6c1 {T : Nat → Nat} {S0 S : AS} (g : Rl T [] S0 0 0 T S) {x0 : Option Nat} {x1 : Int32} {x2 : Int32} {x3 : Int32} (h_x0 : Tx T 100 x0) (h_x1 : In 0 199 x1) (h_x2 : In 0 3 x2) (hx_57_52 : In 0 199 (sI S 57 52)) : Ho (f_M_exchange_B114  S x0 x1 x2 x3 (1 : Int32) (0 : Int32) (1 : Int32)) (fun q => Rl T kw_M83 S0 0 0 T q.2 ∧ In (-2) 199 q.1) := by
  unfold f_M_exchange_B114
  refine r_rv g.1 h_x0 rfl ?_
  refine r_mayAll (w' := kw_M4) g h_x0 (by decide +kernel) (fun s1 g2 g2e c3 c4 c5 => ?_) (fun s1 g2 g2e => ?_)
  · exact absurd rfl c4
  · have f6 : In 0 199 (sI s1 57 52) := by rw [g2e 57 52 (by omega)]; exact hx_57_52
    refine r_ifT (by decide) ?_
    exact r_some ⟨(Rlweak g2 (by decide +kernel) (by decide) (by decide)), (In_w (by decide : In 0 0 (0 : Int32)) (by decide) (by decide))⟩
theorem t_M_exchange_B114_4c1_5c0_6c0 {T : Nat → Nat} {S0 S : AS} (g : Rl T [] S0 0 0 T S) {x0 : Option Nat} {x1 : Int32} {x2 : Int32} {x3 : Int32} (h_x0 : Tx T 100 x0) (h_x1 : In 0 199 x1) (h_x2 : In 0 3 x2) : Ho (f_M_exchange_B114  S x0 x1 x2 x3 (1 : Int32) (0 : Int32) (0 : Int32)) (fun q => Rl T kw_M83 S0 0 0 T q.2 ∧ In (-2) 199 q.1) := by
  unfold f_M_exchange_B114
  refine r_rv g.1 h_x0 rfl ?_
  refine r_mayAll (w' := kw_M4) g h_x0 (by decide +kernel) (fun s1 g2 g2e c3 c4 c5 => ?_) (fun s1 g2 g2e => ?_)
  · exact absurd rfl c4
  · refine r_ifT (by decide) ?_
    exact r_some ⟨(Rlweak g2 (by decide +kernel) (by decide) (by decide)), (In_w (by decide : In 0 0 (0 : Int32)) (by decide) (by decide))⟩
theorem t_M_exchange_B114_4c0_5c0_6c0 {T : Nat → Nat} {S0 S : AS} (g : Rl T [] S0 0 0 T S) {x0 : Option Nat} {x1 : Int32} {x2 : Int32} {x3 : Int32} (h_x0 : Tx T 100 x0) : Ho (f_M_exchange_B114  S x0 x1 x2 x3 (0 : Int32) (0 : Int32) (0 : Int32)) (fun q => Rl T kw_M83 S0 0 0 T q.2 ∧ In (-2) 199 q.1) := by
  unfold f_M_exchange_B114
  refine r_rv g.1 h_x0 rfl ?_
  refine r_mayAll (w' := kw_M4) g h_x0 (by decide +kernel) (fun s1 g2 g2e c3 c4 c5 => ?_) (fun s1 g2 g2e => ?_)
  · exact absurd rfl c3
  · refine r_ifT (by decide) ?_
    exact r_some ⟨(Rlweak g2 (by decide +kernel) (by decide) (by decide)), (In_w (by decide : In 0 0 (0 : Int32)) (by decide) (by decide))⟩
theorem t_M_exchange_B113_4c1_5c1 {T : Nat → Nat} {S0 S : AS} (g : Rl T [] S0 0 0 T S) {x0 : Option Nat} {x1 : Int32} {x2 : Int32} {x3 : Int32} (h_x0 : Tx T 100 x0) (h_x1 : In 0 199 x1) (h_x2 : In 0 3 x2) (h_x3 : In 1 15 x3) : Ho (f_M_exchange_B113  S x0 x1 x2 x3 (1 : Int32) (1 : Int32)) (fun q => Rl T kw_M83 S0 0 0 T q.2 ∧ In (-2) 199 q.1) := by
  unfold f_M_exchange_B113
  exact t_M_exchange_B114_4c1_5c1_6c0 (Rlweak g (by decide +kernel) (by decide) (by decide))  h_x0 (In_w h_x1 (by decide) (by decide)) (In_w h_x2 (by decide) (by decide)) (In_w h_x3 (by decide) (by decide)) 
theorem t_M_exchange_B113_4c1_5c0 {T : Nat → Nat} {S0 S : AS} (g : Rl T [] S0 0 0 T S) {x0 : Option Nat} {x1 : Int32} {x2 : Int32} {x3 : Int32} (h_x0 : Tx T 100 x0) (h_x1 : In 0 199 x1) (h_x2 : In 0 3 x2) : Ho (f_M_exchange_B113  S x0 x1 x2 x3 (1 : Int32) (0 : Int32)) (fun q => Rl T kw_M83 S0 0 0 T q.2 ∧ In (-2) 199 q.1) := by
  unfold f_M_exchange_B113
  exact t_M_exchange_B114_4c1_5c0_6c0 (Rlweak g (by decide +kernel) (by decide) (by decide))  h_x0 (In_w h_x1 (by decide) (by decide)) (In_w h_x2 (by decide) (by decide)) 
theorem t_M_exchange_B113_4c0_5c0 {T : Nat → Nat} {S0 S : AS} (g : Rl T [] S0 0 0 T S) {x0 : Option Nat} {x1 : Int32} {x2 : Int32} {x3 : Int32} (h_x0 : Tx T 100 x0) : Ho (f_M_exchange_B113  S x0 x1 x2 x3 (0 : Int32) (0 : Int32)) (fun q => Rl T kw_M83 S0 0 0 T q.2 ∧ In (-2) 199 q.1) := by
  unfold f_M_exchange_B113
  exact t_M_exchange_B114_4c0_5c0_6c0 (Rlweak g (by decide +kernel) (by decide) (by decide))  h_x0 
theorem t_M_exchange_B55_4c1_5c1 {T : Nat → Nat} {S0 S : AS} (g : Rl T [] S0 0 0 T S) {x0 : Option Nat} {x1 : Int32} {x2 : Int32} {x3 : Int32} (h_x0 : Tx T 100 x0) (h_x1 : In 0 199 x1) (h_x2 : In 0 3 x2) (h_x3 : In 1 15 x3) : Ho (f_M_exchange_B55  S x0 x1 x2 x3 (1 : Int32) (1 : Int32)) (fun q => Rl T kw_M83 S0 0 0 T q.2 ∧ In (-2) 199 q.1) := by
  unfold f_M_exchange_B55
  refine r_ifF (by decide) ?_
  refine r_gIs g.1 h_x0 rfl (p := 57) rfl (fun v24 b1 e2 => ?_)
  refine r_gR g.1 h_x0 rfl rfl (fun v25 h3 => ?_)
  refine r_aIs g.1 h3 rfl (p := 110) rfl rfl (In_w h_x1 (by decide) (by decide) : In 0 199 x1) (by decide) (fun v26 b4 e5 => ?_)
  refine r_if (fun c6 => ?_) (fun c6 => ?_)
  · have q7 : In (-2147483648) 2147483646 v26 := In_w (In_lt1 c6 (In_top v26) (In_top v24)) (by decide) (by decide)
    have q8 : In (-2147483647) 2147483647 v24 := In_w (In_lt2 c6 (In_top v26) (In_top v24)) (by decide) (by decide)
    exact t_M_exchange_B113_4c1_5c1 (Rlweak g (by decide +kernel) (by decide) (by decide))  h_x0 (In_w h_x1 (by decide) (by decide)) (In_w h_x2 (by decide) (by decide)) (In_w h_x3 (by decide) (by decide)) 
  · refine r_gR g.1 h_x0 rfl rfl (fun v27 h9 => ?_)
    refine r_gR g.1 h_x0 rfl rfl (fun v28 h10 => ?_)
    refine r_aIs g.1 h10 rfl (p := 108) rfl rfl (In_w h_x1 (by decide) (by decide) : In 0 199 x1) (by decide) (fun v29 b11 e12 => ?_)
    have q13 : In 0 59 v29 := b11 _ _ rfl
    refine r_aIs g.1 h9 rfl (p := 103) rfl rfl (In_w q13 (by decide) (by decide) : In 0 59 v29) (by decide) (fun v30 b14 e15 => ?_)
    have q16 : In 0 1 v30 := b14 _ _ rfl
    refine r_if (fun c17 => ?_) (fun c17 => ?_)
    · have q18 : In 0 0 v30 := In_w (In_eq c17 (by decide : In 0 0 (0 : Int32))) (by decide) (by decide)
      exact t_M_exchange_B113_4c1_5c1 (Rlweak g (by decide +kernel) (by decide) (by decide))  h_x0 (In_w h_x1 (by decide) (by decide)) (In_w h_x2 (by decide) (by decide)) (In_w h_x3 (by decide) (by decide)) 
    · have q19 : In 1 1 v30 := In_w (In_neL c17 q16 (by decide)) (by decide) (by decide)
      refine r_gR g.1 h_x0 rfl rfl (fun v31 h20 => ?_)
      refine r_aIs g.1 h20 rfl (p := 107) rfl rfl (In_w h_x1 (by decide) (by decide) : In 0 199 x1) (by decide) (fun v32 b21 e22 => ?_)
      refine r_if (fun c23 => ?_) (fun c23 => ?_)
      · have q24 : In 3 2147483647 v32 := In_w (In_le2 c23 (by decide : In 3 3 (3 : Int32)) (In_top v32)) (by decide) (by decide)
        exact t_M_exchange_B113_4c1_5c1 (Rlweak g (by decide +kernel) (by decide) (by decide))  h_x0 (In_w h_x1 (by decide) (by decide)) (In_w h_x2 (by decide) (by decide)) (In_w h_x3 (by decide) (by decide)) 
      · have q25 : In (-2147483648) 2 v32 := In_w (In_lt1 (Int32.not_le.mp c23) (In_top v32) (by decide : In 3 3 (3 : Int32))) (by decide) (by decide)
        refine r_gIs g.1 h_x0 rfl (p := 57) rfl (fun v33 b26 e27 => ?_)
        have q28 : In 0 200 v33 := b26 _ _ rfl
        refine r_if (fun c29 => ?_) (fun c29 => ?_)
        · have q30 : In 200 200 v33 := In_w (In_le2 c29 (by decide : In 200 200 (200 : Int32)) q28) (by decide) (by decide)
          exact t_M_exchange_B113_4c1_5c1 (Rlweak g (by decide +kernel) (by decide) (by decide))  h_x0 (In_w h_x1 (by decide) (by decide)) (In_w h_x2 (by decide) (by decide)) (In_w h_x3 (by decide) (by decide)) 
        · have q31 : In 0 199 v33 := In_w (In_lt1 (Int32.not_le.mp c29) q28 (by decide : In 200 200 (200 : Int32))) (by decide) (by decide)
          exact t_M_exchange_B114_4c1_5c1_6c1 (Rlweak g (by decide +kernel) (by decide) (by decide))  h_x0 (In_w h_x1 (by decide) (by decide)) (In_w h_x2 (by decide) (by decide)) (In_w h_x3 (by decide) (by decide)) (In_w (In_cell e27 q31) (by decide) (by decide)) 
theorem t_M_exchange_B55_4c1_5c0 {T : Nat → Nat} {S0 S : AS} (g : Rl T [] S0 0 0 T S) {x0 : Option Nat} {x1 : Int32} {x2 : Int32} {x3 : Int32} (h_x0 : Tx T 100 x0) (h_x1 : In 0 199 x1) (h_x2 : In 0 3 x2) : Ho (f_M_exchange_B55  S x0 x1 x2 x3 (1 : Int32) (0 : Int32)) (fun q => Rl T kw_M83 S0 0 0 T q.2 ∧ In (-2) 199 q.1) := by
  unfold f_M_exchange_B55
  refine r_ifF (by decide) ?_
  refine r_gIs g.1 h_x0 rfl (p := 57) rfl (fun v24 b1 e2 => ?_)
  refine r_gR g.1 h_x0 rfl rfl (fun v25 h3 => ?_)
  refine r_aIs g.1 h3 rfl (p := 110) rfl rfl (In_w h_x1 (by decide) (by decide) : In 0 199 x1) (by decide) (fun v26 b4 e5 => ?_)
  refine r_if (fun c6 => ?_) (fun c6 => ?_)
  · have q7 : In (-2147483648) 2147483646 v26 := In_w (In_lt1 c6 (In_top v26) (In_top v24)) (by decide) (by decide)
    have q8 : In (-2147483647) 2147483647 v24 := In_w (In_lt2 c6 (In_top v26) (In_top v24)) (by decide) (by decide)
    exact t_M_exchange_B113_4c1_5c0 (Rlweak g (by decide +kernel) (by decide) (by decide))  h_x0 (In_w h_x1 (by decide) (by decide)) (In_w h_x2 (by decide) (by decide)) 
  · refine r_gR g.1 h_x0 rfl rfl (fun v27 h9 => ?_)
    refine r_gR g.1 h_x0 rfl rfl (fun v28 h10 => ?_)
    refine r_aIs g.1 h10 rfl (p := 108) rfl rfl (In_w h_x1 (by decide) (by decide) : In 0 199 x1) (by decide) (fun v29 b11 e12 => ?_)
    have q13 : In 0 59 v29 := b11 _ _ rfl
    refine r_aIs g.1 h9 rfl (p := 103) rfl rfl (In_w q13 (by decide) (by decide) : In 0 59 v29) (by decide) (fun v30 b14 e15 => ?_)
    have q16 : In 0 1 v30 := b14 _ _ rfl
    refine r_if (fun c17 => ?_) (fun c17 => ?_)
    · have q18 : In 0 0 v30 := In_w (In_eq c17 (by decide : In 0 0 (0 : Int32))) (by decide) (by decide)
      exact t_M_exchange_B113_4c1_5c0 (Rlweak g (by decide +kernel) (by decide) (by decide))  h_x0 (In_w h_x1 (by decide) (by decide)) (In_w h_x2 (by decide) (by decide)) 
    · have q19 : In 1 1 v30 := In_w (In_neL c17 q16 (by decide)) (by decide) (by decide)
      refine r_gR g.1 h_x0 rfl rfl (fun v31 h20 => ?_)
      refine r_aIs g.1 h20 rfl (p := 107) rfl rfl (In_w h_x1 (by decide) (by decide) : In 0 199 x1) (by decide) (fun v32 b21 e22 => ?_)
      refine r_if (fun c23 => ?_) (fun c23 => ?_)
      · have q24 : In 3 2147483647 v32 := In_w (In_le2 c23 (by decide : In 3 3 (3 : Int32)) (In_top v32)) (by decide) (by decide)
        exact t_M_exchange_B113_4c1_5c0 (Rlweak g (by decide +kernel) (by decide) (by decide))  h_x0 (In_w h_x1 (by decide) (by decide)) (In_w h_x2 (by decide) (by decide)) 
      · have q25 : In (-2147483648) 2 v32 := In_w (In_lt1 (Int32.not_le.mp c23) (In_top v32) (by decide : In 3 3 (3 : Int32))) (by decide) (by decide)
        refine r_gIs g.1 h_x0 rfl (p := 57) rfl (fun v33 b26 e27 => ?_)
        have q28 : In 0 200 v33 := b26 _ _ rfl
        refine r_if (fun c29 => ?_) (fun c29 => ?_)
        · have q30 : In 200 200 v33 := In_w (In_le2 c29 (by decide : In 200 200 (200 : Int32)) q28) (by decide) (by decide)
          exact t_M_exchange_B113_4c1_5c0 (Rlweak g (by decide +kernel) (by decide) (by decide))  h_x0 (In_w h_x1 (by decide) (by decide)) (In_w h_x2 (by decide) (by decide)) 
        · have q31 : In 0 199 v33 := In_w (In_lt1 (Int32.not_le.mp c29) q28 (by decide : In 200 200 (200 : Int32))) (by decide) (by decide)
          exact t_M_exchange_B114_4c1_5c0_6c1 (Rlweak g (by decide +kernel) (by decide) (by decide))  h_x0 (In_w h_x1 (by decide) (by decide)) (In_w h_x2 (by decide) (by decide)) (In_w (In_cell e27 q31) (by decide) (by decide)) 
theorem t_M_exchange_B55_4c0_5c0 {T : Nat → Nat} {S0 S : AS} (g : Rl T [] S0 0 0 T S) {x0 : Option Nat} {x1 : Int32} {x2 : Int32} {x3 : Int32} (h_x0 : Tx T 100 x0) : Ho (f_M_exchange_B55  S x0 x1 x2 x3 (0 : Int32) (0 : Int32)) (fun q => Rl T kw_M83 S0 0 0 T q.2 ∧ In (-2) 199 q.1) := by
  unfold f_M_exchange_B55
  refine r_ifT (by decide) ?_
  exact t_M_exchange_B113_4c0_5c0 (Rlweak g (by decide +kernel) (by decide) (by decide))  h_x0 
theorem t_M_exchange_B54_4c1 {T : Nat → Nat} {S0 S : AS} (g : Rl T [] S0 0 0 T S) {x0 : Option Nat} {x1 : Int32} {x2 : Int32} {x3 : Int32} (h_x0 : Tx T 100 x0) (h_x1 : In 0 199 x1) (h_x2 : In 0 3 x2) : Ho (f_M_exchange_B54  S x0 x1 x2 x3 (1 : Int32)) (fun q => Rl T kw_M83 S0 0 0 T q.2 ∧ In (-2) 199 q.1) := by
  unfold f_M_exchange_B54
  exact t_M_exchange_B55_4c1_5c0 (Rlweak g (by decide +kernel) (by decide) (by decide))  h_x0 (In_w h_x1 (by decide) (by decide)) (In_w h_x2 (by decide) (by decide)) 
theorem t_M_exchange_B54_4c0 {T : Nat → Nat} {S0 S : AS} (g : Rl T [] S0 0 0 T S) {x0 : Option Nat} {x1 : Int32} {x2 : Int32} {x3 : Int32} (h_x0 : Tx T 100 x0) : Ho (f_M_exchange_B54  S x0 x1 x2 x3 (0 : Int32)) (fun q => Rl T kw_M83 S0 0 0 T q.2 ∧ In (-2) 199 q.1) := by
  unfold f_M_exchange_B54
  exact t_M_exchange_B55_4c0_5c0 (Rlweak g (by decide +kernel) (by decide) (by decide))  h_x0 
theorem t_M_exchange_B20_4c1 {T : Nat → Nat} {S0 S : AS} (g : Rl T [] S0 0 0 T S) {x0 : Option Nat} {x1 : Int32} {x2 : Int32} {x3 : Int32} (h_x0 : Tx T 100 x0) (h_x1 : In 0 199 x1) (h_x2 : In 0 3 x2) : Ho (f_M_exchange_B20  S x0 x1 x2 x3 (1 : Int32)) (fun q => Rl T kw_M83 S0 0 0 T q.2 ∧ In (-2) 199 q.1) := by
  unfold f_M_exchange_B20
  refine r_ifF (by decide) ?_
  refine r_Mi (fun p1 p1b => ?_) ?_
  · have q2 : In 1 2147483647 x3 := In_w (In_le2 p1 (by decide : In 1 1 (1 : Int32)) (In_top x3)) (by decide) (by decide)
    have q3 : In 1 15 x3 := In_w (In_le1 p1b q2 (by decide : In 15 15 (15 : Int32))) (by decide) (by decide)
    refine r_ifF (by decide) ?_
    refine r_gR g.1 h_x0 rfl rfl (fun v36 h4 => ?_)
    refine r_aIs g.1 h4 rfl (p := 106) rfl rfl (In_w h_x1 (by decide) (by decide) : In 0 199 x1) (by decide) (fun v37 b5 e6 => ?_)
    refine r_if (fun c7 => ?_) (fun c7 => ?_)
    · exact t_M_exchange_B55_4c1_5c1 (Rlweak g (by decide +kernel) (by decide) (by decide))  h_x0 (In_w h_x1 (by decide) (by decide)) (In_w h_x2 (by decide) (by decide)) (In_w q3 (by decide) (by decide))
    · exact t_M_exchange_B54_4c1 (Rlweak g (by decide +kernel) (by decide) (by decide))  h_x0 (In_w h_x1 (by decide) (by decide)) (In_w h_x2 (by decide) (by decide))
  · refine r_ifT (by decide) ?_
    exact t_M_exchange_B54_4c1 (Rlweak g (by decide +kernel) (by decide) (by decide))  h_x0 (In_w h_x1 (by decide) (by decide)) (In_w h_x2 (by decide) (by decide)) 
theorem t_M_exchange_B20_4c0 {T : Nat → Nat} {S0 S : AS} (g : Rl T [] S0 0 0 T S) {x0 : Option Nat} {x1 : Int32} {x2 : Int32} {x3 : Int32} (h_x0 : Tx T 100 x0) : Ho (f_M_exchange_B20  S x0 x1 x2 x3 (0 : Int32)) (fun q => Rl T kw_M83 S0 0 0 T q.2 ∧ In (-2) 199 q.1) := by
  unfold f_M_exchange_B20
  refine r_ifT (by decide) ?_
  exact t_M_exchange_B54_4c0 (Rlweak g (by decide +kernel) (by decide) (by decide))  h_x0 
theorem t_M_exchange_B19 {T : Nat → Nat} {S0 S : AS} (g : Rl T [] S0 0 0 T S) {x0 : Option Nat} {x1 : Int32} {x2 : Int32} {x3 : Int32} (h_x0 : Tx T 100 x0) : Ho (f_M_exchange_B19  S x0 x1 x2 x3) (fun q => Rl T kw_M83 S0 0 0 T q.2 ∧ In (-2) 199 q.1) := by
  unfold f_M_exchange_B19
  exact t_M_exchange_B20_4c0 (Rlweak g (by decide +kernel) (by decide) (by decide))  h_x0 
theorem t_M_exchange {T : Nat → Nat} {S : AS} (hT : TI T S) {a0 : Option Nat} {a1 : Int32} {a2 : Int32} {a3 : Int32} (h_a0 : Tx T 100 a0) : Ho (f_M_exchange  S a0 a1 a2 a3) (fun q => Rl T kw_M83 S 0 0 T q.2 ∧ In (-2) 199 q.1) := by
  have g0 := Rlrf hT
  unfold f_M_exchange
  refine r_rv g0.1 h_a0 rfl ?_
  refine r_spl (u_isToken g0.1 h_a0) (fun q1 => ?_) ?_
  · have q2 : In 0 199 a1 := In_w q1.1 (by decide) (by decide)
    refine r_ifF (by decide) ?_
    refine r_spl (u_isService _ _) (fun q3 => ?_) ?_
    · have q4 : In 0 3 a2 := In_w q3 (by decide) (by decide)
      refine r_ifF (by decide) ?_
      exact t_M_exchange_B20_4c1 (Rlweak g0 (by decide +kernel) (by decide) (by decide))  h_a0 (In_w q2 (by decide) (by decide)) (In_w q4 (by decide) (by decide)) 
    · refine r_ifT (by decide) ?_
      exact t_M_exchange_B19 (Rlweak g0 (by decide +kernel) (by decide) (by decide))  h_a0 
  · refine r_ifT (by decide) ?_
    exact t_M_exchange_B19 (Rlweak g0 (by decide +kernel) (by decide) (by decide))  h_a0 
theorem t_M_token {T : Nat → Nat} {S : AS} (hT : TI T S) {a0 : Option Nat} {a1 : Int32} (h_a0 : Tx T 100 a0) : Ho (f_M_token  S a0 a1) (fun q => Rl T kw_M4 S 0 0 T q.2 ∧ True) := by
  have g0 := Rlrf hT
  unfold f_M_token
  refine r_rv g0.1 h_a0 rfl ?_
  refine r_spl (u_isToken g0.1 h_a0) (fun q1 => ?_) ?_
  · have q2 : In 0 199 a1 := In_w q1.1 (by decide) (by decide)
    refine r_rv g0.1 h_a0 rfl ?_
    refine r_may (w' := kw_M4) g0 h_a0 (In_w (by decide : In 1 1 (1 : Int32)) (by decide) (by decide)) (by decide +kernel) (fun s3 g4 g4e c5 => ?_) (fun s3 g4 g4e => ?_)
    · refine r_ifF (by decide) ?_
      refine r_gR g4.1 h_a0 rfl rfl (fun v7 h6 => ?_)
      refine r_aIs g4.1 h6 rfl (p := 110) rfl rfl (In_w q2 (by decide) (by decide) : In 0 199 a1) (by decide) (fun v8 b7 e8 => ?_)
      refine r_gR g4.1 h_a0 rfl rfl (fun v9 h9 => ?_)
      refine r_aIs g4.1 h9 rfl (p := 104) rfl rfl (In_w q2 (by decide) (by decide) : In 0 199 a1) (by decide) (fun v10 b10 e11 => ?_)
      have q12 : In 0 3 v10 := b10 _ _ rfl
      refine r_gR g4.1 h_a0 rfl rfl (fun v11 h13 => ?_)
      refine r_aIs g4.1 h13 rfl (p := 105) rfl rfl (In_w q2 (by decide) (by decide) : In 0 199 a1) (by decide) (fun v12 b14 e15 => ?_)
      have q16 : In 0 3 v12 := b14 _ _ rfl
      refine r_gR g4.1 h_a0 rfl rfl (fun v13 h17 => ?_)
      refine r_aIs g4.1 h17 rfl (p := 107) rfl rfl (In_w q2 (by decide) (by decide) : In 0 199 a1) (by decide) (fun v14 b18 e19 => ?_)
      exact r_some ⟨(Rlweak g4 (by decide +kernel) (by decide) (by decide)), trivial⟩
    · refine r_ifT (by decide) ?_
      exact r_some ⟨(Rlweak g4 (by decide +kernel) (by decide) (by decide)), trivial⟩
  · refine r_rv g0.1 h_a0 rfl ?_
    refine r_may (w' := kw_M4) g0 h_a0 (In_w (by decide : In 0 0 (0 : Int32)) (by decide) (by decide)) (by decide +kernel) (fun s20 g21 g21e c22 => ?_) (fun s20 g21 g21e => ?_)
    · exact absurd rfl c22
    · refine r_ifT (by decide) ?_
      exact r_some ⟨(Rlweak g21 (by decide +kernel) (by decide) (by decide)), trivial⟩
theorem t_M_turn_B23_1t100_2c1_w {T : Nat → Nat} {S0 S : AS} (g : Rl T [] S0 0 0 T S) {x0 : Option Nat} {y0 : Option Nat} (h_x0 : Tx T 100 x0) (h_y0 : Tx T 100 y0) (hx_57_60 : In 1 19 (sI S 57 60)) (hx_57_62 : In (-1) (-1) (sI S 57 62)) : Ho (f_M_turn_B23  S x0 y0 (1 : Int32)) (fun q => Rl T kw_M86 S0 1 0 T q.2 ∧ In 0 19 q.1) := by
  unfold f_M_turn_B23
  refine r_rv g.1 h_y0 rfl ?_
  refine r_may (w' := kw_M4) g h_y0 (In_w (by decide : In 1 1 (1 : Int32)) (by decide) (by decide)) (by decide +kernel) (fun s1 g2 g2e c3 => ?_) (fun s1 g2 g2e => ?_)
  · have f4 : In 1 19 (sI s1 57 60) := by rw [g2e 57 60 (by omega)]; exact hx_57_60
    have f5 : In (-1) (-1) (sI s1 57 62) := by rw [g2e 57 62 (by omega)]; exact hx_57_62
    refine r_ifF (by decide) ?_
    refine r_gIs g2.1 h_x0 rfl (p := 57) rfl (fun v4 b6 e7 => ?_)
    have q8 : In 1 20 v4 := b6 _ _ rfl
    have q9 : In 1 19 v4 := In_w (In_read e7 f4) (by decide) (by decide)
    refine r_w62 (w' := kw_M84) g2 h_x0 (In_w q9 (by decide) (by decide)) (by decide +kernel) (fun s12 g13 e14 => ?_)
    have f15 : In 1 19 (sI s12 57 60) := In_ne e14 (by omega) (In_cell e7 q9)
    have f16 : In 1 19 (sI s12 57 62) := In_eqw e14 (In_w q9 (by decide) (by decide))
    refine r_gIs g13.1 h_x0 rfl (p := 57) rfl (fun v6 b17 e18 => ?_)
    refine r_pIs (w' := kw_M85) g13 h_x0 (fun _ _ q => by cases q) (by decide +kernel) (by unfold phc; decide) (fun s19 g20 e21 => ?_)
    have f22 : In 1 19 (sI s19 57 60) := In_ne e21 (by omega) f15
    have f23 : In 1 19 (sI s19 57 62) := In_ne e21 (by omega) f16
    refine r_gIs g20.1 h_x0 rfl (p := 57) rfl (fun v8 b24 e25 => ?_)
    have q26 : In 1 20 v8 := b24 _ _ rfl
    have q27 : In 1 19 v8 := In_w (In_read e25 f22) (by decide) (by decide)
    refine r_pIs (w' := kw_M86) g20 h_x0 (fun _ _ q => by cases q; exact (In_w (In_w (In_add q27 (by decide : In 1 1 (1 : Int32)) (by decide) (by decide)) (by decide) (by decide) : In 2 20 (v8 + (1 : Int32))) (by decide) (by decide))) (by decide +kernel) (by unfold phc; decide) (fun s28 g29 e30 => ?_)
    have f31 : In 1 19 (sI s28 57 62) := In_ne e30 (by omega) f23
    have f32 : In 2 20 (sI s28 57 60) := In_eqw e30 (In_w (In_w (In_add q27 (by decide : In 1 1 (1 : Int32)) (by decide) (by decide)) (by decide) (by decide) : In 2 20 (v8 + (1 : Int32))) (by decide) (by decide))
    refine r_gIs g29.1 h_x0 rfl (p := 57) rfl (fun v10 b33 e34 => ?_)
    have q35 : In (-1) 19 v10 := b33 _ _ rfl
    have q36 : In 1 19 v10 := In_w (In_read e34 f31) (by decide) (by decide)
    exact r_some ⟨(Rlweak g29 (by decide +kernel) (by decide) (by decide)), (In_w q36 (by decide) (by decide))⟩
  · have f37 : In 1 19 (sI s1 57 60) := by rw [g2e 57 60 (by omega)]; exact hx_57_60
    have f38 : In (-1) (-1) (sI s1 57 62) := by rw [g2e 57 62 (by omega)]; exact hx_57_62
    refine r_ifT (by decide) ?_
    exact r_some ⟨(Rlweak g2 (by decide +kernel) (by decide) (by decide)), (In_w (by decide : In 0 0 (0 : Int32)) (by decide) (by decide))⟩
theorem t_M_turn_B23_1t100_2c0_w {T : Nat → Nat} {S0 S : AS} (g : Rl T [] S0 0 0 T S) {x0 : Option Nat} {y0 : Option Nat} (h_x0 : Tx T 100 x0) (h_y0 : Tx T 100 y0) (hx_57_60 : In 20 20 (sI S 57 60)) (hx_57_62 : In (-1) (-1) (sI S 57 62)) : Ho (f_M_turn_B23  S x0 y0 (0 : Int32)) (fun q => Rl T kw_M86 S0 1 0 T q.2 ∧ In 0 19 q.1) := by
  unfold f_M_turn_B23
  refine r_rv g.1 h_y0 rfl ?_
  refine r_may (w' := kw_M4) g h_y0 (In_w (by decide : In 0 0 (0 : Int32)) (by decide) (by decide)) (by decide +kernel) (fun s1 g2 g2e c3 => ?_) (fun s1 g2 g2e => ?_)
  · exact absurd rfl c3
  · have f4 : In 20 20 (sI s1 57 60) := by rw [g2e 57 60 (by omega)]; exact hx_57_60
    have f5 : In (-1) (-1) (sI s1 57 62) := by rw [g2e 57 62 (by omega)]; exact hx_57_62
    refine r_ifT (by decide) ?_
    exact r_some ⟨(Rlweak g2 (by decide +kernel) (by decide) (by decide)), (In_w (by decide : In 0 0 (0 : Int32)) (by decide) (by decide))⟩
theorem t_M_turn_B23_1t100_2c0 {T : Nat → Nat} {S0 S : AS} (g : Rl T [] S0 0 0 T S) {x0 : Option Nat} {y0 : Option Nat} (h_x0 : Tx T 100 x0) (h_y0 : Tx T 100 y0) (hx_57_62 : In 0 19 (sI S 57 62)) : Ho (f_M_turn_B23  S x0 y0 (0 : Int32)) (fun q => Rl T kw_M86 S0 1 0 T q.2 ∧ In 0 19 q.1) := by
  unfold f_M_turn_B23
  refine r_rv g.1 h_y0 rfl ?_
  refine r_may (w' := kw_M4) g h_y0 (In_w (by decide : In 0 0 (0 : Int32)) (by decide) (by decide)) (by decide +kernel) (fun s1 g2 g2e c3 => ?_) (fun s1 g2 g2e => ?_)
  · exact absurd rfl c3
  · have f4 : In 0 19 (sI s1 57 62) := by rw [g2e 57 62 (by omega)]; exact hx_57_62
    refine r_ifT (by decide) ?_
    exact r_some ⟨(Rlweak g2 (by decide +kernel) (by decide) (by decide)), (In_w (by decide : In 0 0 (0 : Int32)) (by decide) (by decide))⟩
theorem t_M_turn_B22_1t100_w {T : Nat → Nat} {S0 S : AS} (g : Rl T [] S0 0 0 T S) {x0 : Option Nat} {y0 : Option Nat} (h_x0 : Tx T 100 x0) (h_y0 : Tx T 100 y0) (hx_57_60 : In 20 20 (sI S 57 60)) (hx_57_62 : In (-1) (-1) (sI S 57 62)) : Ho (f_M_turn_B22  S x0 y0) (fun q => Rl T kw_M86 S0 1 0 T q.2 ∧ In 0 19 q.1) := by
  unfold f_M_turn_B22
  exact t_M_turn_B23_1t100_2c0_w (Rlweak g (by decide +kernel) (by decide) (by decide))  h_x0 h_y0 (In_w hx_57_60 (by decide) (by decide)) (In_w hx_57_62 (by decide) (by decide)) 
theorem t_M_turn_B22_1t100 {T : Nat → Nat} {S0 S : AS} (g : Rl T [] S0 0 0 T S) {x0 : Option Nat} {y0 : Option Nat} (h_x0 : Tx T 100 x0) (h_y0 : Tx T 100 y0) (hx_57_62 : In 0 19 (sI S 57 62)) : Ho (f_M_turn_B22  S x0 y0) (fun q => Rl T kw_M86 S0 1 0 T q.2 ∧ In 0 19 q.1) := by
  unfold f_M_turn_B22
  exact t_M_turn_B23_1t100_2c0 (Rlweak g (by decide +kernel) (by decide) (by decide))  h_x0 h_y0 (In_w hx_57_62 (by decide) (by decide)) 
theorem t_M_turn {T : Nat → Nat} {S : AS} (hT : TI T S) {a0 : Option Nat} (h_a0 : Tx T 100 a0) : Ho (f_M_turn  S a0) (fun q => Rl T kw_M86 S 1 0 T q.2 ∧ In 0 19 q.1) := by
  have g0 := Rlrf hT
  unfold f_M_turn
  refine r_gIs g0.1 h_a0 rfl (p := 57) rfl (fun v11 b1 e2 => ?_)
  have q3 : In (-1) 19 v11 := b1 _ _ rfl
  refine r_if (fun c4 => ?_) (fun c4 => ?_)
  · have q5 : In (-1) (-1) v11 := In_w (In_eq c4 (by decide : In (-1) (-1) (-1 : Int32))) (by decide) (by decide)
    refine r_gIs g0.1 h_a0 rfl (p := 57) rfl (fun v12 b6 e7 => ?_)
    have q8 : In 1 20 v12 := b6 _ _ rfl
    refine r_if (fun c9 => ?_) (fun c9 => ?_)
    · have q10 : In 20 20 v12 := In_w (In_le2 c9 (by decide : In 20 20 (20 : Int32)) q8) (by decide) (by decide)
      exact t_M_turn_B22_1t100_w (Rlweak g0 (by decide +kernel) (by decide) (by decide))  h_a0 h_a0 (In_w (In_cell e7 q10) (by decide) (by decide)) (In_w (In_cell e2 q5) (by decide) (by decide)) 
    · have q11 : In 1 19 v12 := In_w (In_lt1 (Int32.not_le.mp c9) q8 (by decide : In 20 20 (20 : Int32))) (by decide) (by decide)
      exact t_M_turn_B23_1t100_2c1_w (Rlweak g0 (by decide +kernel) (by decide) (by decide))  h_a0 h_a0 (In_w (In_cell e7 q11) (by decide) (by decide)) (In_w (In_cell e2 q5) (by decide) (by decide)) 
  · have q12 : In 0 19 v11 := In_w (In_neL c4 q3 (by decide)) (by decide) (by decide)
    exact t_M_turn_B22_1t100 (Rlweak g0 (by decide +kernel) (by decide) (by decide))  h_a0 h_a0 (In_w (In_cell e2 q12) (by decide) (by decide)) 
theorem t_M_emergency_B67 {T : Nat → Nat} {S0 S : AS} (g : Rl T kw_M89 S0 1 0 T S) {x0 : Option Nat} (h_x0 : Tx T 100 x0) (hx_57_62 : In 0 19 (sI S 57 62)) (hfph0 : Ph S0 ≤ 1100) : Ho (f_M_emergency_B67  S x0) (fun q => Rl T kw_M91 S0 1 0 T q.2 ∧ In 0 19 q.1) := by
  unfold f_M_emergency_B67
  refine r_gIs g.1 h_x0 rfl (p := 57) rfl (fun v1 b1 e2 => ?_)
  have q3 : In (-1) 19 v1 := b1 _ _ rfl
  have q4 : In 0 19 v1 := In_w (In_read e2 hx_57_62) (by decide) (by decide)
  refine r_pIs (w' := kw_M90) g h_x0 (fun _ _ q => by cases q; exact (In_w q4 (by decide) (by decide))) (by decide +kernel) (by unfold phc; decide) (fun s5 g6 e7 => ?_)
  have f8 : In 0 19 (sI s5 57 62) := In_ne e7 (by omega) (In_cell e2 q4)
  have f9 : In 0 19 (sI s5 57 61) := In_eqw e7 (In_w q4 (by decide) (by decide))
  refine r_sigw (w' := kw_M91) g6 h_x0 h_x0 h_x0 (In_w f8 (by decide) (by decide)) (phS hfph0 g6 (by decide)) (by decide +kernel) (fun s12 g13 => ?_)
  refine r_gIs g13.1 h_x0 rfl (p := 57) rfl (fun v7 b14 e15 => ?_)
  have q16 : In 0 19 v7 := b14 _ _ rfl
  exact r_some ⟨(Rlweak g13 (by decide +kernel) (by decide) (by decide)), (In_w q16 (by decide) (by decide))⟩
theorem t_M_emergency_B23_1t100_2c0_w {T : Nat → Nat} {S0 S : AS} (g : Rl T [] S0 0 0 T S) {x0 : Option Nat} {y0 : Option Nat} (h_x0 : Tx T 100 x0) (h_y0 : Tx T 100 y0) (hx_57_60 : In 20 20 (sI S 57 60)) (hx_57_62 : In (-1) (-1) (sI S 57 62)) (hfph0 : Ph S0 ≤ 1100) : Ho (f_M_emergency_B23  S x0 y0 (0 : Int32)) (fun q => Rl T kw_M91 S0 1 0 T q.2 ∧ In 0 19 q.1) := by
  unfold f_M_emergency_B23
  refine r_rv g.1 h_y0 rfl ?_
  refine r_may (w' := kw_M4) g h_y0 (In_w (by decide : In 0 0 (0 : Int32)) (by decide) (by decide)) (by decide +kernel) (fun s1 g2 g2e c3 => ?_) (fun s1 g2 g2e => ?_)
  · exact absurd rfl c3
  · have f4 : In 20 20 (sI s1 57 60) := by rw [g2e 57 60 (by omega)]; exact hx_57_60
    have f5 : In (-1) (-1) (sI s1 57 62) := by rw [g2e 57 62 (by omega)]; exact hx_57_62
    refine r_ifT (by decide) ?_
    exact r_some ⟨(Rlweak g2 (by decide +kernel) (by decide) (by decide)), (In_w (by decide : In 0 0 (0 : Int32)) (by decide) (by decide))⟩
theorem t_M_emergency_B23_1t100_2c1_w {T : Nat → Nat} {S0 S : AS} (g : Rl T [] S0 0 0 T S) {x0 : Option Nat} {y0 : Option Nat} (h_x0 : Tx T 100 x0) (h_y0 : Tx T 100 y0) (hx_57_60 : In 1 19 (sI S 57 60)) (hx_57_62 : In (-1) (-1) (sI S 57 62)) (hfph0 : Ph S0 ≤ 1100) : Ho (f_M_emergency_B23  S x0 y0 (1 : Int32)) (fun q => Rl T kw_M91 S0 1 0 T q.2 ∧ In 0 19 q.1) := by
  unfold f_M_emergency_B23
  refine r_rv g.1 h_y0 rfl ?_
  refine r_may (w' := kw_M4) g h_y0 (In_w (by decide : In 1 1 (1 : Int32)) (by decide) (by decide)) (by decide +kernel) (fun s1 g2 g2e c3 => ?_) (fun s1 g2 g2e => ?_)
  · have f4 : In 1 19 (sI s1 57 60) := by rw [g2e 57 60 (by omega)]; exact hx_57_60
    have f5 : In (-1) (-1) (sI s1 57 62) := by rw [g2e 57 62 (by omega)]; exact hx_57_62
    refine r_ifF (by decide) ?_
    refine r_gR g2.1 h_x0 rfl rfl (fun v11 h6 => ?_)
    refine r_gIs g2.1 h_x0 rfl (p := 57) rfl (fun v12 b7 e8 => ?_)
    have q9 : In 0 19 v12 := b7 _ _ rfl
    refine r_bZs (w' := kw_M87) g2 h6 rfl (p := 111) rfl rfl (In_w q9 (by decide) (by decide) : In 0 19 v12) (by decide) (In_w (by decide : In 1 1 (1 : Int32)) (by decide) (by decide)) (fun _ _ _ q => by cases q; exact (In_w (by decide : In 1 1 (1 : Int32)) (by decide) (by decide))) (fun _ => rfl) (by decide) (by decide +kernel) (fun _ => by unfold phc; omega) (fun s10 g11 e12 => ?_)
    have f13 : In 1 19 (sI s10 57 60) := In_ne e12 (by omega) f4
    have f14 : In (-1) (-1) (sI s10 57 62) := In_ne e12 (by omega) f5
    have f15 : In 1 1 (sI s10 111 v12.toNatClampNeg) := In_eqw e12 (In_w (by decide : In 1 1 (1 : Int32)) (by decide) (by decide))
    refine r_gIs g11.1 h_x0 rfl (p := 57) rfl (fun v14 b16 e17 => ?_)
    have q18 : In (-1) 19 v14 := b16 _ _ rfl
    have q19 : In (-1) (-1) v14 := In_w (In_read e17 f14) (by decide) (by decide)
    refine r_if (fun c20 => ?_) (fun c20 => ?_)
    · refine r_gIs g11.1 h_x0 rfl (p := 57) rfl (fun v15 b21 e22 => ?_)
      have q23 : In 1 20 v15 := b21 _ _ rfl
      have q24 : In 1 19 v15 := In_w (In_read e22 f13) (by decide) (by decide)
      refine r_w62 (w' := kw_M88) g11 h_x0 (In_w q24 (by decide) (by decide)) (by decide +kernel) (fun s27 g28 e29 => ?_)
      have f30 : In 1 19 (sI s27 57 60) := In_ne e29 (by omega) (In_cell e22 q24)
      have f31 : In 1 1 (sI s27 111 v12.toNatClampNeg) := In_ne e29 (by omega) f15
      have f32 : In 1 19 (sI s27 57 62) := In_eqw e29 (In_w q24 (by decide) (by decide))
      refine r_gIs g28.1 h_x0 rfl (p := 57) rfl (fun v17 b33 e34 => ?_)
      have q35 : In 1 20 v17 := b33 _ _ rfl
      have q36 : In 1 19 v17 := In_w (In_read e34 f30) (by decide) (by decide)
      refine r_pIs (w' := kw_M89) g28 h_x0 (fun _ _ q => by cases q; exact (In_w (In_w (In_add q36 (by decide : In 1 1 (1 : Int32)) (by decide) (by decide)) (by decide) (by decide) : In 2 20 (v17 + (1 : Int32))) (by decide) (by decide))) (by decide +kernel) (by unfold phc; decide) (fun s37 g38 e39 => ?_)
      have f40 : In 1 1 (sI s37 111 v12.toNatClampNeg) := In_ne e39 (by omega) f31
      have f41 : In 1 19 (sI s37 57 62) := In_ne e39 (by omega) f32
      have f42 : In 2 20 (sI s37 57 60) := In_eqw e39 (In_w (In_w (In_add q36 (by decide : In 1 1 (1 : Int32)) (by decide) (by decide)) (by decide) (by decide) : In 2 20 (v17 + (1 : Int32))) (by decide) (by decide))
      exact t_M_emergency_B67 (Rlweak g38 (by decide +kernel) (by decide) (by decide))  h_x0 (In_w f41 (by decide) (by decide)) (Int.le_trans hfph0 (by decide))
    · have q43 : In 0 (-1) v14 := In_w (In_neL c20 q19 (by decide)) (by decide) (by decide)
      exact absurd q43.1 (by have := q43.2; omega)
  · have f44 : In 1 19 (sI s1 57 60) := by rw [g2e 57 60 (by omega)]; exact hx_57_60
    have f45 : In (-1) (-1) (sI s1 57 62) := by rw [g2e 57 62 (by omega)]; exact hx_57_62
    refine r_ifT (by decide) ?_
    exact r_some ⟨(Rlweak g2 (by decide +kernel) (by decide) (by decide)), (In_w (by decide : In 0 0 (0 : Int32)) (by decide) (by decide))⟩
theorem t_M_emergency_B23_1t100_2c1 {T : Nat → Nat} {S0 S : AS} (g : Rl T [] S0 0 0 T S) {x0 : Option Nat} {y0 : Option Nat} (h_x0 : Tx T 100 x0) (h_y0 : Tx T 100 y0) (hx_57_62 : In 0 19 (sI S 57 62)) (hfph0 : Ph S0 ≤ 1100) : Ho (f_M_emergency_B23  S x0 y0 (1 : Int32)) (fun q => Rl T kw_M91 S0 1 0 T q.2 ∧ In 0 19 q.1) := by
  unfold f_M_emergency_B23
  refine r_rv g.1 h_y0 rfl ?_
  refine r_may (w' := kw_M4) g h_y0 (In_w (by decide : In 1 1 (1 : Int32)) (by decide) (by decide)) (by decide +kernel) (fun s1 g2 g2e c3 => ?_) (fun s1 g2 g2e => ?_)
  · have f4 : In 0 19 (sI s1 57 62) := by rw [g2e 57 62 (by omega)]; exact hx_57_62
    refine r_ifF (by decide) ?_
    refine r_gR g2.1 h_x0 rfl rfl (fun v11 h5 => ?_)
    refine r_gIs g2.1 h_x0 rfl (p := 57) rfl (fun v12 b6 e7 => ?_)
    have q8 : In 0 19 v12 := b6 _ _ rfl
    refine r_bZs (w' := kw_M87) g2 h5 rfl (p := 111) rfl rfl (In_w q8 (by decide) (by decide) : In 0 19 v12) (by decide) (In_w (by decide : In 1 1 (1 : Int32)) (by decide) (by decide)) (fun _ _ _ q => by cases q; exact (In_w (by decide : In 1 1 (1 : Int32)) (by decide) (by decide))) (fun _ => rfl) (by decide) (by decide +kernel) (fun _ => by unfold phc; omega) (fun s9 g10 e11 => ?_)
    have f12 : In 0 19 (sI s9 57 62) := In_ne e11 (by omega) f4
    have f13 : In 1 1 (sI s9 111 v12.toNatClampNeg) := In_eqw e11 (In_w (by decide : In 1 1 (1 : Int32)) (by decide) (by decide))
    refine r_gIs g10.1 h_x0 rfl (p := 57) rfl (fun v14 b14 e15 => ?_)
    have q16 : In (-1) 19 v14 := b14 _ _ rfl
    have q17 : In 0 19 v14 := In_w (In_read e15 f12) (by decide) (by decide)
    refine r_if (fun c18 => ?_) (fun c18 => ?_)
    · have q19 : In 0 (-1) v14 := In_w (In_glb q17 (In_eq c18 (by decide : In (-1) (-1) (-1 : Int32)))) (by decide) (by decide)
      exact absurd q19.1 (by have := q19.2; omega)
    · exact t_M_emergency_B67 (Rlweak g10 (by decide +kernel) (by decide) (by decide))  h_x0 (In_w (In_cell e15 q17) (by decide) (by decide)) (Int.le_trans hfph0 (by decide))
  · have f20 : In 0 19 (sI s1 57 62) := by rw [g2e 57 62 (by omega)]; exact hx_57_62
    refine r_ifT (by decide) ?_
    exact r_some ⟨(Rlweak g2 (by decide +kernel) (by decide) (by decide)), (In_w (by decide : In 0 0 (0 : Int32)) (by decide) (by decide))⟩
theorem t_M_emergency_B18_1t100_w {T : Nat → Nat} {S0 S : AS} (g : Rl T [] S0 0 0 T S) {x0 : Option Nat} {y0 : Option Nat} (h_x0 : Tx T 100 x0) (h_y0 : Tx T 100 y0) (hx_57_60 : In 1 19 (sI S 57 60)) (hx_57_62 : In (-1) (-1) (sI S 57 62)) (hfph0 : Ph S0 ≤ 1100) : Ho (f_M_emergency_B18  S x0 y0) (fun q => Rl T kw_M91 S0 1 0 T q.2 ∧ In 0 19 q.1) := by
  unfold f_M_emergency_B18
  exact t_M_emergency_B23_1t100_2c1_w (Rlweak g (by decide +kernel) (by decide) (by decide))  h_x0 h_y0 (In_w hx_57_60 (by decide) (by decide)) (In_w hx_57_62 (by decide) (by decide)) (Int.le_trans hfph0 (by decide))
theorem t_M_emergency_B18_1t100 {T : Nat → Nat} {S0 S : AS} (g : Rl T [] S0 0 0 T S) {x0 : Option Nat} {y0 : Option Nat} (h_x0 : Tx T 100 x0) (h_y0 : Tx T 100 y0) (hx_57_62 : In 0 19 (sI S 57 62)) (hfph0 : Ph S0 ≤ 1100) : Ho (f_M_emergency_B18  S x0 y0) (fun q => Rl T kw_M91 S0 1 0 T q.2 ∧ In 0 19 q.1) := by
  unfold f_M_emergency_B18
  exact t_M_emergency_B23_1t100_2c1 (Rlweak g (by decide +kernel) (by decide) (by decide))  h_x0 h_y0 (In_w hx_57_62 (by decide) (by decide)) (Int.le_trans hfph0 (by decide))
theorem t_M_emergency {T : Nat → Nat} {S : AS} (hT : TI T S) {a0 : Option Nat} (h_a0 : Tx T 100 a0) (hfph0 : Ph S ≤ 1100) : Ho (f_M_emergency  S a0) (fun q => Rl T kw_M91 S 1 0 T q.2 ∧ In 0 19 q.1) := by
  have g0 := Rlrf hT
  unfold f_M_emergency
  refine r_gIs g0.1 h_a0 rfl (p := 57) rfl (fun v19 b1 e2 => ?_)
  have q3 : In (-1) 19 v19 := b1 _ _ rfl
  refine r_if (fun c4 => ?_) (fun c4 => ?_)
  · have q5 : In (-1) (-1) v19 := In_w (In_eq c4 (by decide : In (-1) (-1) (-1 : Int32))) (by decide) (by decide)
    refine r_gIs g0.1 h_a0 rfl (p := 57) rfl (fun v20 b6 e7 => ?_)
    have q8 : In 1 20 v20 := b6 _ _ rfl
    refine r_if (fun c9 => ?_) (fun c9 => ?_)
    · have q10 : In 20 20 v20 := In_w (In_le2 c9 (by decide : In 20 20 (20 : Int32)) q8) (by decide) (by decide)
      exact t_M_emergency_B23_1t100_2c0_w (Rlweak g0 (by decide +kernel) (by decide) (by decide))  h_a0 h_a0 (In_w (In_cell e7 q10) (by decide) (by decide)) (In_w (In_cell e2 q5) (by decide) (by decide)) (Int.le_trans hfph0 (by decide))
    · have q11 : In 1 19 v20 := In_w (In_lt1 (Int32.not_le.mp c9) q8 (by decide : In 20 20 (20 : Int32))) (by decide) (by decide)
      exact t_M_emergency_B18_1t100_w (Rlweak g0 (by decide +kernel) (by decide) (by decide))  h_a0 h_a0 (In_w (In_cell e7 q11) (by decide) (by decide)) (In_w (In_cell e2 q5) (by decide) (by decide)) (Int.le_trans hfph0 (by decide))
  · have q12 : In 0 19 v19 := In_w (In_neL c4 q3 (by decide)) (by decide) (by decide)
    exact t_M_emergency_B18_1t100 (Rlweak g0 (by decide +kernel) (by decide) (by decide))  h_a0 h_a0 (In_w (In_cell e2 q12) (by decide) (by decide)) (Int.le_trans hfph0 (by decide))
theorem t_M_signing {T : Nat → Nat} {S : AS} (hT : TI T S) {a0 : Option Nat} (h_a0 : Tx T 100 a0) : Ho (f_M_signing  S a0) (fun q => Rl T kw_M4 S 0 0 T q.2 ∧ In 0 19 q.1) := by
  have g0 := Rlrf hT
  unfold f_M_signing
  refine r_pIs (w' := kw_M4) g0 h_a0 (fun _ _ q => by cases q) (by decide +kernel) (by unfold phc; decide) (fun s1 g2 e3 => ?_)
  have f4 : In 0 0 (sI s1 57 82) := In_eqw e3 (In_w (by decide : In 0 0 (0 : Int32)) (by decide) (by decide))
  refine r_gIs g2.1 h_a0 rfl (p := 57) rfl (fun v2 b5 e6 => ?_)
  have q7 : In 0 19 v2 := b5 _ _ rfl
  exact r_some ⟨(Rlweak g2 (by decide +kernel) (by decide) (by decide)), (In_w q7 (by decide) (by decide))⟩
theorem t_M_isOpenKey_B40 {T : Nat → Nat} {S : AS} (hT : TI T S) : Ho (f_M_isOpenKey_B40  S ) (fun q => q.2 = S ∧ In 0 1 q.1) := by
  unfold f_M_isOpenKey_B40
  exact r_some ⟨rfl, (In_w (by decide : In 1 1 (1 : Int32)) (by decide) (by decide))⟩
theorem t_M_isOpenKey {T : Nat → Nat} {S : AS} (hT : TI T S) {a0 : Option Nat} {a1 : Int32} (h_a0 : Tx T 100 a0) (h_a1 : In 0 19 a1) : Ho (f_M_isOpenKey  S a0 a1) (fun q => q.2 = S ∧ In 0 1 q.1) := by
  unfold f_M_isOpenKey
  refine r_gIs hT h_a0 rfl (p := 57) rfl (fun v1 b1 e2 => ?_)
  have q3 : In 1 20 v1 := b1 _ _ rfl
  refine r_if (fun c4 => ?_) (fun c4 => ?_)
  · have q5 : In 1 19 v1 := In_w (In_le1 c4 q3 h_a1) (by decide) (by decide)
    have q6 : In 1 19 a1 := In_w (In_le2 c4 q3 h_a1) (by decide) (by decide)
    exact r_some ⟨rfl, (In_w (by decide : In 0 0 (0 : Int32)) (by decide) (by decide))⟩
  · refine r_gR hT h_a0 rfl rfl (fun v2 h7 => ?_)
    refine r_aIs hT h7 rfl (p := 111) rfl rfl (In_w h_a1 (by decide) (by decide) : In 0 19 a1) (by decide) (fun v3 b8 e9 => ?_)
    have q10 : In 0 1 v3 := b8 _ _ rfl
    refine r_if (fun c11 => ?_) (fun c11 => ?_)
    · have q12 : In 0 0 v3 := In_w (In_eq c11 (by decide : In 0 0 (0 : Int32))) (by decide) (by decide)
      refine r_gR hT h_a0 rfl rfl (fun v4 h13 => ?_)
      refine r_aIs hT h13 rfl (p := 112) rfl rfl (In_w h_a1 (by decide) (by decide) : In 0 19 a1) (by decide) (fun v5 b14 e15 => ?_)
      refine r_if (fun c16 => ?_) (fun c16 => ?_)
      · have q17 : In (-1) (-1) v5 := In_w (In_eq c16 (by decide : In (-1) (-1) (-1 : Int32))) (by decide) (by decide)
        exact t_M_isOpenKey_B40 hT   
      · refine r_gIs hT h_a0 rfl (p := 57) rfl (fun v6 b18 e19 => ?_)
        refine r_gR hT h_a0 rfl rfl (fun v7 h20 => ?_)
        refine r_aIs hT h20 rfl (p := 112) rfl rfl (In_w h_a1 (by decide) (by decide) : In 0 19 a1) (by decide) (fun v8 b21 e22 => ?_)
        refine r_if (fun c23 => ?_) (fun c23 => ?_)
        · exact r_some ⟨rfl, (In_w (by decide : In 0 0 (0 : Int32)) (by decide) (by decide))⟩
        · have q24 : In (-2147483648) 2147483646 v6 := In_w (In_lt1 (Int32.not_le.mp c23) (In_top v6) (In_top v8)) (by decide) (by decide)
          have q25 : In (-2147483647) 2147483647 v8 := In_w (In_lt2 (Int32.not_le.mp c23) (In_top v6) (In_top v8)) (by decide) (by decide)
          exact t_M_isOpenKey_B40 hT   
    · have q26 : In 1 1 v3 := In_w (In_neL c11 q10 (by decide)) (by decide) (by decide)
      exact r_some ⟨rfl, (In_w (by decide : In 0 0 (0 : Int32)) (by decide) (by decide))⟩
theorem t_M_isPublished {T : Nat → Nat} {S : AS} (hT : TI T S) {a0 : Option Nat} {a1 : Int32} (h_a0 : Tx T 100 a0) : Ho (f_M_isPublished  S a0 a1) (fun q => Rl T kw_M4 S 0 0 T q.2 ∧ In 0 1 q.1) := by
  have g0 := Rlrf hT
  unfold f_M_isPublished
  refine r_gIs g0.1 h_a0 rfl (p := 57) rfl (fun v1 b1 e2 => ?_)
  have q3 : In 1 20 v1 := b1 _ _ rfl
  refine r_Mi (fun p4 p4b => ?_) ?_
  · have q5 : In 0 2147483647 a1 := In_w (In_le2 p4 (by decide : In 0 0 (0 : Int32)) (In_top a1)) (by decide) (by decide)
    have q6 : In 0 19 a1 := In_w (In_le1 p4b q5 (In_w (In_sub q3 (by decide : In 1 1 (1 : Int32)) (by decide) (by decide)) (by decide) (by decide) : In 0 19 (v1 - (1 : Int32)))) (by decide) (by decide)
    refine r_rv g0.1 h_a0 rfl ?_
    refine r_may (w' := kw_M4) g0 h_a0 (In_w (by decide : In 1 1 (1 : Int32)) (by decide) (by decide)) (by decide +kernel) (fun s7 g8 g8e c9 => ?_) (fun s7 g8 g8e => ?_)
    · refine r_ifF (by decide) ?_
      refine r_rv g8.1 h_a0 rfl ?_
      refine r_P (P := fun v => In 0 1 v) (t_M_isOpenKey g8.1 h_a0 (In_w q6 (by decide) (by decide))) (fun v9 h10 => ?_)
      refine r_if (fun c11 => ?_) (fun c11 => ?_)
      · have q12 : In 0 0 v9 := In_w (In_eq c11 (by decide : In 0 0 (0 : Int32))) (by decide) (by decide)
        exact r_some ⟨(Rlweak g8 (by decide +kernel) (by decide) (by decide)), (In_w (by decide : In 0 0 (0 : Int32)) (by decide) (by decide))⟩
      · have q13 : In 1 1 v9 := In_w (In_neL c11 h10 (by decide)) (by decide) (by decide)
        exact r_some ⟨(Rlweak g8 (by decide +kernel) (by decide) (by decide)), (In_w (by decide : In 1 1 (1 : Int32)) (by decide) (by decide))⟩
    · refine r_ifT (by decide) ?_
      exact r_some ⟨(Rlweak g8 (by decide +kernel) (by decide) (by decide)), (In_w (by decide : In 0 0 (0 : Int32)) (by decide) (by decide))⟩
  · refine r_rv g0.1 h_a0 rfl ?_
    refine r_may (w' := kw_M4) g0 h_a0 (In_w (by decide : In 0 0 (0 : Int32)) (by decide) (by decide)) (by decide +kernel) (fun s14 g15 g15e c16 => ?_) (fun s14 g15 g15e => ?_)
    · exact absurd rfl c16
    · refine r_ifT (by decide) ?_
      exact r_some ⟨(Rlweak g15 (by decide +kernel) (by decide) (by decide)), (In_w (by decide : In 0 0 (0 : Int32)) (by decide) (by decide))⟩
theorem t_M_line_B139_4c0 {T : Nat → Nat} {S0 S : AS} (g : Rl T kw_M93 S0 0 0 T S) {x0 : Option Nat} {x1 : Int32} {x3 : Int32} {y0 : Int32} {k37 : AS → Option Nat → Int32 → Int32 → Int32 → Option (Int32 × AS)} {n37 : Nat} (hk37 : ∀ (S' : AS) (z0 : Option Nat) (z1 : Int32) (z2 : Int32) (z3 : Int32), Rl T kw_M93 S0 0 0 T S' → Tx T 100 z0 → In 0 3 z1 → In 0 60 z3 → (60 + 1 : Int) ≤ z3.toInt + (n37 : Int) → Ho (k37 S' z0 z1 z2 z3) (fun q => Rl T kw_M93 S0 0 0 T q.2 ∧ True)) (hm37 : (60 + 1 : Int) ≤ x3.toInt + ((n37 + 1 : Nat) : Int)) (h_x0 : Tx T 100 x0) (h_x1 : In 0 3 x1) (h_x3 : In 0 59 x3) (hx_57_46 : In 1 60 (sI S 57 46)) (hx_103_x3 : In 0 1 (sI S 103 x3.toNatClampNeg)) : Ho (f_M_line_B139 k37 S x0 x1 x3 y0 (0 : Int32)) (fun q => Rl T kw_M93 S0 0 0 T q.2 ∧ True) := by
  unfold f_M_line_B139
  refine r_val ?_
  generalize ei1 : (y0 + (0 : Int32)) = i1
  refine r_val ?_
  generalize ei2 : (x3 + (1 : Int32)) = i2
  have qi2 : In 1 60 i2 := by rw [← ei2]; exact (In_w (In_add h_x3 (by decide : In 1 1 (1 : Int32)) (by decide) (by decide)) (by decide) (by decide) : In 1 60 (x3 + (1 : Int32)))
  exact hk37 S x0 x1 i1 i2 (Rlweak g (by decide +kernel) (by decide) (by decide)) h_x0 (In_w h_x1 (by decide) (by decide)) (In_w qi2 (by decide) (by decide))  (by rw [← ei2, toInt_add1 h_x3 (by decide) (by decide)]; omega)
theorem t_M_line_B139_4c1 {T : Nat → Nat} {S0 S : AS} (g : Rl T kw_M93 S0 0 0 T S) {x0 : Option Nat} {x1 : Int32} {x3 : Int32} {y0 : Int32} {k37 : AS → Option Nat → Int32 → Int32 → Int32 → Option (Int32 × AS)} {n37 : Nat} (hk37 : ∀ (S' : AS) (z0 : Option Nat) (z1 : Int32) (z2 : Int32) (z3 : Int32), Rl T kw_M93 S0 0 0 T S' → Tx T 100 z0 → In 0 3 z1 → In 0 60 z3 → (60 + 1 : Int) ≤ z3.toInt + (n37 : Int) → Ho (k37 S' z0 z1 z2 z3) (fun q => Rl T kw_M93 S0 0 0 T q.2 ∧ True)) (hm37 : (60 + 1 : Int) ≤ x3.toInt + ((n37 + 1 : Nat) : Int)) (h_x0 : Tx T 100 x0) (h_x1 : In 0 3 x1) (h_x3 : In 0 59 x3) (hx_57_46 : In 1 60 (sI S 57 46)) (hx_103_x3 : In 0 0 (sI S 103 x3.toNatClampNeg)) : Ho (f_M_line_B139 k37 S x0 x1 x3 y0 (1 : Int32)) (fun q => Rl T kw_M93 S0 0 0 T q.2 ∧ True) := by
  unfold f_M_line_B139
  refine r_val ?_
  generalize ei1 : (y0 + (1 : Int32)) = i1
  refine r_val ?_
  generalize ei2 : (x3 + (1 : Int32)) = i2
  have qi2 : In 1 60 i2 := by rw [← ei2]; exact (In_w (In_add h_x3 (by decide : In 1 1 (1 : Int32)) (by decide) (by decide)) (by decide) (by decide) : In 1 60 (x3 + (1 : Int32)))
  exact hk37 S x0 x1 i1 i2 (Rlweak g (by decide +kernel) (by decide) (by decide)) h_x0 (In_w h_x1 (by decide) (by decide)) (In_w qi2 (by decide) (by decide))  (by rw [← ei2, toInt_add1 h_x3 (by decide) (by decide)]; omega)
theorem t_M_line_B127_4c0_5t169_7c0 {T : Nat → Nat} {S0 S : AS} (g : Rl T kw_M93 S0 0 0 T S) {x0 : Option Nat} {x1 : Int32} {x2 : Int32} {x3 : Int32} {y0 : Option Nat} {y1 : Int32} {k37 : AS → Option Nat → Int32 → Int32 → Int32 → Option (Int32 × AS)} {n37 : Nat} (hk37 : ∀ (S' : AS) (z0 : Option Nat) (z1 : Int32) (z2 : Int32) (z3 : Int32), Rl T kw_M93 S0 0 0 T S' → Tx T 100 z0 → In 0 3 z1 → In 0 60 z3 → (60 + 1 : Int) ≤ z3.toInt + (n37 : Int) → Ho (k37 S' z0 z1 z2 z3) (fun q => Rl T kw_M93 S0 0 0 T q.2 ∧ True)) (hm37 : (60 + 1 : Int) ≤ x3.toInt + ((n37 + 1 : Nat) : Int)) (h_x0 : Tx T 100 x0) (h_x1 : In 0 3 x1) (h_x3 : In 0 59 x3) (h_y0 : Tx T 169 y0) (h_y1 : In 0 239 y1) (hx_57_46 : In 1 60 (sI S 57 46)) (hx_103_x3 : In 0 1 (sI S 103 x3.toNatClampNeg)) : Ho (f_M_line_B127 k37 S x0 x1 x2 x3 (0 : Int32) y0 y1 (0 : Int32)) (fun q => Rl T kw_M93 S0 0 0 T q.2 ∧ True) := by
  unfold f_M_line_B127
  refine r_bZs (w' := kw_M93) g h_y0 rfl (p := 116) rfl rfl (In_w h_y1 (by decide) (by decide) : In 0 239 y1) (by decide) (In_w (by decide : In 0 0 (0 : Int32)) (by decide) (by decide)) (fun _ _ _ q => by cases q; exact (In_w (by decide : In 0 0 (0 : Int32)) (by decide) (by decide))) (fun _ => rfl) (by decide) (by decide +kernel) (fun _ => by unfold phc; omega) (fun s1 g2 e3 => ?_)
  have f4 : In 1 60 (sI s1 57 46) := In_ne e3 (by omega) hx_57_46
  have f5 : In 0 1 (sI s1 103 x3.toNatClampNeg) := In_ne e3 (by omega) hx_103_x3
  have f6 : In 0 0 (sI s1 116 y1.toNatClampNeg) := In_eqw e3 (In_w (by decide : In 0 0 (0 : Int32)) (by decide) (by decide))
  refine r_ifT (by decide) ?_
  exact t_M_line_B139_4c0 (Rlweak g2 (by decide +kernel) (by decide) (by decide)) hk37 hm37 h_x0 (In_w h_x1 (by decide) (by decide)) (In_w h_x3 (by decide) (by decide)) (In_w f4 (by decide) (by decide)) (In_w f5 (by decide) (by decide)) 
theorem t_M_line_B127_4c1_5t169_7c1 {T : Nat → Nat} {S0 S : AS} (g : Rl T kw_M93 S0 0 0 T S) {x0 : Option Nat} {x1 : Int32} {x2 : Int32} {x3 : Int32} {y0 : Option Nat} {y1 : Int32} {k37 : AS → Option Nat → Int32 → Int32 → Int32 → Option (Int32 × AS)} {n37 : Nat} (hk37 : ∀ (S' : AS) (z0 : Option Nat) (z1 : Int32) (z2 : Int32) (z3 : Int32), Rl T kw_M93 S0 0 0 T S' → Tx T 100 z0 → In 0 3 z1 → In 0 60 z3 → (60 + 1 : Int) ≤ z3.toInt + (n37 : Int) → Ho (k37 S' z0 z1 z2 z3) (fun q => Rl T kw_M93 S0 0 0 T q.2 ∧ True)) (hm37 : (60 + 1 : Int) ≤ x3.toInt + ((n37 + 1 : Nat) : Int)) (h_x0 : Tx T 100 x0) (h_x1 : In 0 3 x1) (h_x3 : In 0 59 x3) (h_y0 : Tx T 169 y0) (h_y1 : In 0 239 y1) (hx_57_46 : In 1 60 (sI S 57 46)) (hx_103_x3 : In 0 0 (sI S 103 x3.toNatClampNeg)) : Ho (f_M_line_B127 k37 S x0 x1 x2 x3 (1 : Int32) y0 y1 (1 : Int32)) (fun q => Rl T kw_M93 S0 0 0 T q.2 ∧ True) := by
  unfold f_M_line_B127
  refine r_bZs (w' := kw_M93) g h_y0 rfl (p := 116) rfl rfl (In_w h_y1 (by decide) (by decide) : In 0 239 y1) (by decide) (In_w (by decide : In 1 1 (1 : Int32)) (by decide) (by decide)) (fun _ _ _ q => by cases q; exact (In_w (by decide : In 1 1 (1 : Int32)) (by decide) (by decide))) (fun _ => rfl) (by decide) (by decide +kernel) (fun _ => by unfold phc; omega) (fun s1 g2 e3 => ?_)
  have f4 : In 1 60 (sI s1 57 46) := In_ne e3 (by omega) hx_57_46
  have f5 : In 0 0 (sI s1 103 x3.toNatClampNeg) := In_ne e3 (by omega) hx_103_x3
  have f6 : In 1 1 (sI s1 116 y1.toNatClampNeg) := In_eqw e3 (In_w (by decide : In 1 1 (1 : Int32)) (by decide) (by decide))
  refine r_ifF (by decide) ?_
  exact t_M_line_B139_4c1 (Rlweak g2 (by decide +kernel) (by decide) (by decide)) hk37 hm37 h_x0 (In_w h_x1 (by decide) (by decide)) (In_w h_x3 (by decide) (by decide)) (In_w f4 (by decide) (by decide)) (In_w f5 (by decide) (by decide)) 
theorem t_M_line_B127_4c0_5t169_7c1 {T : Nat → Nat} {S0 S : AS} (g : Rl T kw_M93 S0 0 0 T S) {x0 : Option Nat} {x1 : Int32} {x2 : Int32} {x3 : Int32} {y0 : Option Nat} {y1 : Int32} {k37 : AS → Option Nat → Int32 → Int32 → Int32 → Option (Int32 × AS)} {n37 : Nat} (hk37 : ∀ (S' : AS) (z0 : Option Nat) (z1 : Int32) (z2 : Int32) (z3 : Int32), Rl T kw_M93 S0 0 0 T S' → Tx T 100 z0 → In 0 3 z1 → In 0 60 z3 → (60 + 1 : Int) ≤ z3.toInt + (n37 : Int) → Ho (k37 S' z0 z1 z2 z3) (fun q => Rl T kw_M93 S0 0 0 T q.2 ∧ True)) (hm37 : (60 + 1 : Int) ≤ x3.toInt + ((n37 + 1 : Nat) : Int)) (h_x0 : Tx T 100 x0) (h_x1 : In 0 3 x1) (h_x3 : In 0 59 x3) (h_y0 : Tx T 169 y0) (h_y1 : In 0 239 y1) (hx_57_46 : In 1 60 (sI S 57 46)) (hx_103_x3 : In 0 1 (sI S 103 x3.toNatClampNeg)) : Ho (f_M_line_B127 k37 S x0 x1 x2 x3 (0 : Int32) y0 y1 (1 : Int32)) (fun q => Rl T kw_M93 S0 0 0 T q.2 ∧ True) := by
  unfold f_M_line_B127
  refine r_bZs (w' := kw_M93) g h_y0 rfl (p := 116) rfl rfl (In_w h_y1 (by decide) (by decide) : In 0 239 y1) (by decide) (In_w (by decide : In 1 1 (1 : Int32)) (by decide) (by decide)) (fun _ _ _ q => by cases q; exact (In_w (by decide : In 1 1 (1 : Int32)) (by decide) (by decide))) (fun _ => rfl) (by decide) (by decide +kernel) (fun _ => by unfold phc; omega) (fun s1 g2 e3 => ?_)
  have f4 : In 1 60 (sI s1 57 46) := In_ne e3 (by omega) hx_57_46
  have f5 : In 0 1 (sI s1 103 x3.toNatClampNeg) := In_ne e3 (by omega) hx_103_x3
  have f6 : In 1 1 (sI s1 116 y1.toNatClampNeg) := In_eqw e3 (In_w (by decide : In 1 1 (1 : Int32)) (by decide) (by decide))
  refine r_ifT (by decide) ?_
  exact t_M_line_B139_4c0 (Rlweak g2 (by decide +kernel) (by decide) (by decide)) hk37 hm37 h_x0 (In_w h_x1 (by decide) (by decide)) (In_w h_x3 (by decide) (by decide)) (In_w f4 (by decide) (by decide)) (In_w f5 (by decide) (by decide)) 
theorem t_M_line_B122_4c1_5t169 {T : Nat → Nat} {S0 S : AS} (g : Rl T kw_M93 S0 0 0 T S) {x0 : Option Nat} {x1 : Int32} {x2 : Int32} {x3 : Int32} {y0 : Option Nat} {y1 : Int32} {k37 : AS → Option Nat → Int32 → Int32 → Int32 → Option (Int32 × AS)} {n37 : Nat} (hk37 : ∀ (S' : AS) (z0 : Option Nat) (z1 : Int32) (z2 : Int32) (z3 : Int32), Rl T kw_M93 S0 0 0 T S' → Tx T 100 z0 → In 0 3 z1 → In 0 60 z3 → (60 + 1 : Int) ≤ z3.toInt + (n37 : Int) → Ho (k37 S' z0 z1 z2 z3) (fun q => Rl T kw_M93 S0 0 0 T q.2 ∧ True)) (hm37 : (60 + 1 : Int) ≤ x3.toInt + ((n37 + 1 : Nat) : Int)) (h_x0 : Tx T 100 x0) (h_x1 : In 0 3 x1) (h_x3 : In 0 59 x3) (h_y0 : Tx T 169 y0) (h_y1 : In 0 239 y1) (hx_57_46 : In 1 60 (sI S 57 46)) (hx_103_x3 : In 0 0 (sI S 103 x3.toNatClampNeg)) : Ho (f_M_line_B122 k37 S x0 x1 x2 x3 (1 : Int32) y0 y1) (fun q => Rl T kw_M93 S0 0 0 T q.2 ∧ True) := by
  unfold f_M_line_B122
  exact t_M_line_B127_4c1_5t169_7c1 (Rlweak g (by decide +kernel) (by decide) (by decide)) hk37 hm37 h_x0 (In_w h_x1 (by decide) (by decide)) (In_w h_x3 (by decide) (by decide)) h_y0 (In_w h_y1 (by decide) (by decide)) (In_w hx_57_46 (by decide) (by decide)) (In_w hx_103_x3 (by decide) (by decide)) 
theorem t_M_line_B122_4c0_5t169 {T : Nat → Nat} {S0 S : AS} (g : Rl T kw_M93 S0 0 0 T S) {x0 : Option Nat} {x1 : Int32} {x2 : Int32} {x3 : Int32} {y0 : Option Nat} {y1 : Int32} {k37 : AS → Option Nat → Int32 → Int32 → Int32 → Option (Int32 × AS)} {n37 : Nat} (hk37 : ∀ (S' : AS) (z0 : Option Nat) (z1 : Int32) (z2 : Int32) (z3 : Int32), Rl T kw_M93 S0 0 0 T S' → Tx T 100 z0 → In 0 3 z1 → In 0 60 z3 → (60 + 1 : Int) ≤ z3.toInt + (n37 : Int) → Ho (k37 S' z0 z1 z2 z3) (fun q => Rl T kw_M93 S0 0 0 T q.2 ∧ True)) (hm37 : (60 + 1 : Int) ≤ x3.toInt + ((n37 + 1 : Nat) : Int)) (h_x0 : Tx T 100 x0) (h_x1 : In 0 3 x1) (h_x3 : In 0 59 x3) (h_y0 : Tx T 169 y0) (h_y1 : In 0 239 y1) (hx_57_46 : In 1 60 (sI S 57 46)) (hx_103_x3 : In 0 1 (sI S 103 x3.toNatClampNeg)) : Ho (f_M_line_B122 k37 S x0 x1 x2 x3 (0 : Int32) y0 y1) (fun q => Rl T kw_M93 S0 0 0 T q.2 ∧ True) := by
  unfold f_M_line_B122
  exact t_M_line_B127_4c0_5t169_7c1 (Rlweak g (by decide +kernel) (by decide) (by decide)) hk37 hm37 h_x0 (In_w h_x1 (by decide) (by decide)) (In_w h_x3 (by decide) (by decide)) h_y0 (In_w h_y1 (by decide) (by decide)) (In_w hx_57_46 (by decide) (by decide)) (In_w hx_103_x3 (by decide) (by decide)) 
theorem t_M_line_B91_4c1 {T : Nat → Nat} {S0 S : AS} (g : Rl T kw_M93 S0 0 0 T S) {x0 : Option Nat} {x1 : Int32} {x2 : Int32} {x3 : Int32} {k37 : AS → Option Nat → Int32 → Int32 → Int32 → Option (Int32 × AS)} {n37 : Nat} (hk37 : ∀ (S' : AS) (z0 : Option Nat) (z1 : Int32) (z2 : Int32) (z3 : Int32), Rl T kw_M93 S0 0 0 T S' → Tx T 100 z0 → In 0 3 z1 → In 0 60 z3 → (60 + 1 : Int) ≤ z3.toInt + (n37 : Int) → Ho (k37 S' z0 z1 z2 z3) (fun q => Rl T kw_M93 S0 0 0 T q.2 ∧ True)) (hm37 : (60 + 1 : Int) ≤ x3.toInt + ((n37 + 1 : Nat) : Int)) (h_x0 : Tx T 100 x0) (h_x1 : In 0 3 x1) (h_x3 : In 0 59 x3) (hx_57_46 : In 1 60 (sI S 57 46)) (hx_103_x3 : In 0 0 (sI S 103 x3.toNatClampNeg)) : Ho (f_M_line_B91 k37 S x0 x1 x2 x3 (1 : Int32)) (fun q => Rl T kw_M93 S0 0 0 T q.2 ∧ True) := by
  unfold f_M_line_B91
  refine r_gR g.1 h_x0 rfl rfl (fun v4 h1 => ?_)
  refine r_gR g.1 h_x0 rfl rfl (fun v5 h2 => ?_)
  refine r_aIs g.1 h2 rfl (p := 116) rfl rfl (In_w (In_w (In_add (In_w (In_mulc (k := 60) h_x1 (by decide) (by decide) (by decide) (by decide)) (by decide) (by decide) : In 0 180 ((60 : Int32) * x1)) h_x3 (by decide) (by decide)) (by decide) (by decide) : In 0 239 (((60 : Int32) * x1) + x3)) (by decide) (by decide) : In 0 239 (((60 : Int32) * x1) + x3)) (by decide) (fun v6 b3 e4 => ?_)
  have q5 : In 0 1 v6 := b3 _ _ rfl
  refine r_if (fun c6 => ?_) (fun c6 => ?_)
  · have q7 : In 0 0 v6 := In_w (In_eq c6 (by decide : In 0 0 (0 : Int32))) (by decide) (by decide)
    refine r_ifF (by decide) ?_
    exact t_M_line_B122_4c1_5t169 (Rlweak g (by decide +kernel) (by decide) (by decide)) hk37 hm37 h_x0 (In_w h_x1 (by decide) (by decide)) (In_w h_x3 (by decide) (by decide)) h1 (In_w (In_w (In_add (In_w (In_mulc (k := 60) h_x1 (by decide) (by decide) (by decide) (by decide)) (by decide) (by decide) : In 0 180 ((60 : Int32) * x1)) h_x3 (by decide) (by decide)) (by decide) (by decide) : In 0 239 (((60 : Int32) * x1) + x3)) (by decide) (by decide)) (In_w hx_57_46 (by decide) (by decide)) (In_w hx_103_x3 (by decide) (by decide)) 
  · have q8 : In 1 1 v6 := In_w (In_neL c6 q5 (by decide)) (by decide) (by decide)
    exact t_M_line_B122_4c1_5t169 (Rlweak g (by decide +kernel) (by decide) (by decide)) hk37 hm37 h_x0 (In_w h_x1 (by decide) (by decide)) (In_w h_x3 (by decide) (by decide)) h1 (In_w (In_w (In_add (In_w (In_mulc (k := 60) h_x1 (by decide) (by decide) (by decide) (by decide)) (by decide) (by decide) : In 0 180 ((60 : Int32) * x1)) h_x3 (by decide) (by decide)) (by decide) (by decide) : In 0 239 (((60 : Int32) * x1) + x3)) (by decide) (by decide)) (In_w hx_57_46 (by decide) (by decide)) (In_w hx_103_x3 (by decide) (by decide)) 
theorem t_M_line_B91_4c0 {T : Nat → Nat} {S0 S : AS} (g : Rl T kw_M93 S0 0 0 T S) {x0 : Option Nat} {x1 : Int32} {x2 : Int32} {x3 : Int32} {k37 : AS → Option Nat → Int32 → Int32 → Int32 → Option (Int32 × AS)} {n37 : Nat} (hk37 : ∀ (S' : AS) (z0 : Option Nat) (z1 : Int32) (z2 : Int32) (z3 : Int32), Rl T kw_M93 S0 0 0 T S' → Tx T 100 z0 → In 0 3 z1 → In 0 60 z3 → (60 + 1 : Int) ≤ z3.toInt + (n37 : Int) → Ho (k37 S' z0 z1 z2 z3) (fun q => Rl T kw_M93 S0 0 0 T q.2 ∧ True)) (hm37 : (60 + 1 : Int) ≤ x3.toInt + ((n37 + 1 : Nat) : Int)) (h_x0 : Tx T 100 x0) (h_x1 : In 0 3 x1) (h_x3 : In 0 59 x3) (hx_57_46 : In 1 60 (sI S 57 46)) (hx_103_x3 : In 0 1 (sI S 103 x3.toNatClampNeg)) : Ho (f_M_line_B91 k37 S x0 x1 x2 x3 (0 : Int32)) (fun q => Rl T kw_M93 S0 0 0 T q.2 ∧ True) := by
  unfold f_M_line_B91
  refine r_gR g.1 h_x0 rfl rfl (fun v4 h1 => ?_)
  refine r_gR g.1 h_x0 rfl rfl (fun v5 h2 => ?_)
  refine r_aIs g.1 h2 rfl (p := 116) rfl rfl (In_w (In_w (In_add (In_w (In_mulc (k := 60) h_x1 (by decide) (by decide) (by decide) (by decide)) (by decide) (by decide) : In 0 180 ((60 : Int32) * x1)) h_x3 (by decide) (by decide)) (by decide) (by decide) : In 0 239 (((60 : Int32) * x1) + x3)) (by decide) (by decide) : In 0 239 (((60 : Int32) * x1) + x3)) (by decide) (fun v6 b3 e4 => ?_)
  have q5 : In 0 1 v6 := b3 _ _ rfl
  refine r_if (fun c6 => ?_) (fun c6 => ?_)
  · have q7 : In 0 0 v6 := In_w (In_eq c6 (by decide : In 0 0 (0 : Int32))) (by decide) (by decide)
    refine r_ifT (by decide) ?_
    exact t_M_line_B127_4c0_5t169_7c0 (Rlweak g (by decide +kernel) (by decide) (by decide)) hk37 hm37 h_x0 (In_w h_x1 (by decide) (by decide)) (In_w h_x3 (by decide) (by decide)) h1 (In_w (In_w (In_add (In_w (In_mulc (k := 60) h_x1 (by decide) (by decide) (by decide) (by decide)) (by decide) (by decide) : In 0 180 ((60 : Int32) * x1)) h_x3 (by decide) (by decide)) (by decide) (by decide) : In 0 239 (((60 : Int32) * x1) + x3)) (by decide) (by decide)) (In_w hx_57_46 (by decide) (by decide)) (In_w hx_103_x3 (by decide) (by decide)) 
  · have q8 : In 1 1 v6 := In_w (In_neL c6 q5 (by decide)) (by decide) (by decide)
    exact t_M_line_B122_4c0_5t169 (Rlweak g (by decide +kernel) (by decide) (by decide)) hk37 hm37 h_x0 (In_w h_x1 (by decide) (by decide)) (In_w h_x3 (by decide) (by decide)) h1 (In_w (In_w (In_add (In_w (In_mulc (k := 60) h_x1 (by decide) (by decide) (by decide) (by decide)) (by decide) (by decide) : In 0 180 ((60 : Int32) * x1)) h_x3 (by decide) (by decide)) (by decide) (by decide) : In 0 239 (((60 : Int32) * x1) + x3)) (by decide) (by decide)) (In_w hx_57_46 (by decide) (by decide)) (In_w hx_103_x3 (by decide) (by decide)) 
theorem t_M_line_B90 {T : Nat → Nat} {S0 S : AS} (g : Rl T kw_M93 S0 0 0 T S) {x0 : Option Nat} {x1 : Int32} {x2 : Int32} {x3 : Int32} {k37 : AS → Option Nat → Int32 → Int32 → Int32 → Option (Int32 × AS)} {n37 : Nat} (hk37 : ∀ (S' : AS) (z0 : Option Nat) (z1 : Int32) (z2 : Int32) (z3 : Int32), Rl T kw_M93 S0 0 0 T S' → Tx T 100 z0 → In 0 3 z1 → In 0 60 z3 → (60 + 1 : Int) ≤ z3.toInt + (n37 : Int) → Ho (k37 S' z0 z1 z2 z3) (fun q => Rl T kw_M93 S0 0 0 T q.2 ∧ True)) (hm37 : (60 + 1 : Int) ≤ x3.toInt + ((n37 + 1 : Nat) : Int)) (h_x0 : Tx T 100 x0) (h_x1 : In 0 3 x1) (h_x3 : In 0 59 x3) (hx_57_46 : In 1 60 (sI S 57 46)) (hx_103_x3 : In 0 1 (sI S 103 x3.toNatClampNeg)) : Ho (f_M_line_B90 k37 S x0 x1 x2 x3) (fun q => Rl T kw_M93 S0 0 0 T q.2 ∧ True) := by
  unfold f_M_line_B90
  exact t_M_line_B91_4c0 (Rlweak g (by decide +kernel) (by decide) (by decide)) hk37 hm37 h_x0 (In_w h_x1 (by decide) (by decide)) (In_w h_x3 (by decide) (by decide)) (In_w hx_57_46 (by decide) (by decide)) (In_w hx_103_x3 (by decide) (by decide)) 
theorem t_M_line_C37 {T : Nat → Nat} {S0 S : AS} (g : Rl T kw_M93 S0 0 0 T S) {x0 : Option Nat} {x1 : Int32} {x2 : Int32} {x3 : Int32} {k37 : AS → Option Nat → Int32 → Int32 → Int32 → Option (Int32 × AS)} {n37 : Nat} (hk37 : ∀ (S' : AS) (z0 : Option Nat) (z1 : Int32) (z2 : Int32) (z3 : Int32), Rl T kw_M93 S0 0 0 T S' → Tx T 100 z0 → In 0 3 z1 → In 0 60 z3 → (60 + 1 : Int) ≤ z3.toInt + (n37 : Int) → Ho (k37 S' z0 z1 z2 z3) (fun q => Rl T kw_M93 S0 0 0 T q.2 ∧ True)) (hm37 : (60 + 1 : Int) ≤ x3.toInt + ((n37 + 1 : Nat) : Int)) (h_x0 : Tx T 100 x0) (h_x1 : In 0 3 x1) (h_x3 : In 0 60 x3) : Ho (f_M_line_C37 k37 S x0 x1 x2 x3) (fun q => Rl T kw_M93 S0 0 0 T q.2 ∧ True) := by
  unfold f_M_line_C37
  refine r_gIs g.1 h_x0 rfl (p := 57) rfl (fun v7 b1 e2 => ?_)
  have q3 : In 0 60 v7 := b1 _ _ rfl
  refine r_if (fun c4 => ?_) (fun c4 => ?_)
  · exact r_some ⟨(Rlweak g (by decide +kernel) (by decide) (by decide)), trivial⟩
  · have q5 : In 0 59 x3 := In_w (In_lt1 (Int32.not_le.mp c4) h_x3 q3) (by decide) (by decide)
    have q6 : In 1 60 v7 := In_w (In_lt2 (Int32.not_le.mp c4) h_x3 q3) (by decide) (by decide)
    refine r_gR g.1 h_x0 rfl rfl (fun v8 h7 => ?_)
    refine r_aIs g.1 h7 rfl (p := 113) rfl rfl (In_w h_x1 (by decide) (by decide) : In 0 3 x1) (by decide) (fun v9 b8 e9 => ?_)
    have q10 : In 0 1 v9 := b8 _ _ rfl
    refine r_if (fun c11 => ?_) (fun c11 => ?_)
    · have q12 : In 0 0 v9 := In_w (In_eq c11 (by decide : In 0 0 (0 : Int32))) (by decide) (by decide)
      refine r_gR g.1 h_x0 rfl rfl (fun v10 h13 => ?_)
      refine r_aIs g.1 h13 rfl (p := 103) rfl rfl (In_w q5 (by decide) (by decide) : In 0 59 x3) (by decide) (fun v11 b14 e15 => ?_)
      have q16 : In 0 1 v11 := b14 _ _ rfl
      refine r_if (fun c17 => ?_) (fun c17 => ?_)
      · have q18 : In 0 0 v11 := In_w (In_eq c17 (by decide : In 0 0 (0 : Int32))) (by decide) (by decide)
        refine r_gR g.1 h_x0 rfl rfl (fun v12 h19 => ?_)
        refine r_aIs g.1 h19 rfl (p := 116) rfl rfl (In_w (In_w (In_add (In_w (In_mulc (k := 60) h_x1 (by decide) (by decide) (by decide) (by decide)) (by decide) (by decide) : In 0 180 ((60 : Int32) * x1)) q5 (by decide) (by decide)) (by decide) (by decide) : In 0 239 (((60 : Int32) * x1) + x3)) (by decide) (by decide) : In 0 239 (((60 : Int32) * x1) + x3)) (by decide) (fun v13 b20 e21 => ?_)
        have q22 : In 0 1 v13 := b20 _ _ rfl
        refine r_if (fun c23 => ?_) (fun c23 => ?_)
        · have q24 : In 0 0 v13 := In_w (In_eq c23 (by decide : In 0 0 (0 : Int32))) (by decide) (by decide)
          refine r_rv g.1 h_x0 rfl ?_
          refine r_P (P := fun v => In 0 1 v) (t_M_hears g.1 h_x0) (fun v16 h25 => ?_)
          refine r_if (fun c26 => ?_) (fun c26 => ?_)
          · have q27 : In 0 0 v16 := In_w (In_eq c26 (by decide : In 0 0 (0 : Int32))) (by decide) (by decide)
            exact t_M_line_B90 (Rlweak g (by decide +kernel) (by decide) (by decide)) hk37 hm37 h_x0 (In_w h_x1 (by decide) (by decide)) (In_w q5 (by decide) (by decide)) (In_w (In_cell e2 q6) (by decide) (by decide)) (In_w (In_cell e15 q18) (by decide) (by decide)) 
          · have q28 : In 1 1 v16 := In_w (In_neL c26 h25 (by decide)) (by decide) (by decide)
            exact t_M_line_B91_4c1 (Rlweak g (by decide +kernel) (by decide) (by decide)) hk37 hm37 h_x0 (In_w h_x1 (by decide) (by decide)) (In_w q5 (by decide) (by decide)) (In_w (In_cell e2 q6) (by decide) (by decide)) (In_w (In_cell e15 q18) (by decide) (by decide)) 
        · have q29 : In 1 1 v13 := In_w (In_neL c23 q22 (by decide)) (by decide) (by decide)
          exact t_M_line_B90 (Rlweak g (by decide +kernel) (by decide) (by decide)) hk37 hm37 h_x0 (In_w h_x1 (by decide) (by decide)) (In_w q5 (by decide) (by decide)) (In_w (In_cell e2 q6) (by decide) (by decide)) (In_w (In_cell e15 q18) (by decide) (by decide)) 
      · have q30 : In 1 1 v11 := In_w (In_neL c17 q16 (by decide)) (by decide) (by decide)
        exact t_M_line_B90 (Rlweak g (by decide +kernel) (by decide) (by decide)) hk37 hm37 h_x0 (In_w h_x1 (by decide) (by decide)) (In_w q5 (by decide) (by decide)) (In_w (In_cell e2 q6) (by decide) (by decide)) (In_w (In_cell e15 q30) (by decide) (by decide)) 
    · have q31 : In 1 1 v9 := In_w (In_neL c11 q10 (by decide)) (by decide) (by decide)
      exact r_some ⟨(Rlweak g (by decide +kernel) (by decide) (by decide)), trivial⟩
theorem t_M_line_L37 {T : Nat → Nat} {S0 : AS} : ∀ (n : Nat) (S : AS) (x0 : Option Nat) (x1 : Int32) (x2 : Int32) (x3 : Int32), Rl T kw_M93 S0 0 0 T S → Tx T 100 x0 → In 0 3 x1 → In 0 60 x3 → (60 + 1 : Int) ≤ x3.toInt + (n : Int) → Ho (f_M_line_L37  n S x0 x1 x2 x3) (fun q => Rl T kw_M93 S0 0 0 T q.2 ∧ True) := by
  intro n
  induction n with
  | zero =>
    intro S x0 x1 x2 x3 g h_x0 h_x1 h_x3 hm
    exact absurd hm (by have := h_x3.2; omega)
  | succ n ih =>
    intro S x0 x1 x2 x3 g h_x0 h_x1 h_x3 hm
    exact t_M_line_C37 g  (fun S' z0 z1 z2 z3 g' a_h_x0 a_h_x1 a_h_x3 am => ih S' z0 z1 z2 z3 g' a_h_x0 a_h_x1 a_h_x3 am) hm h_x0 h_x1 h_x3 
theorem t_M_line_B32_2t166_4c1 {T : Nat → Nat} {S0 S : AS} (g : Rl T kw_M4 S0 0 0 T S) {x0 : Option Nat} {x1 : Int32} {y0 : Option Nat} {y1 : Int32} (h_x0 : Tx T 100 x0) (h_x1 : In 0 3 x1) (h_y0 : Tx T 166 y0) (h_y1 : In 0 3 y1) : Ho (f_M_line_B32  S x0 x1 y0 y1 (1 : Int32)) (fun q => Rl T kw_M93 S0 0 0 T q.2 ∧ True) := by
  unfold f_M_line_B32
  refine r_bZs (w' := kw_M92) g h_y0 rfl (p := 113) rfl rfl (In_w h_y1 (by decide) (by decide) : In 0 3 y1) (by decide) (In_w (by decide : In 1 1 (1 : Int32)) (by decide) (by decide)) (fun _ _ _ q => by cases q; exact (In_w (by decide : In 1 1 (1 : Int32)) (by decide) (by decide))) (fun _ => rfl) (by decide) (by decide +kernel) (fun _ => by unfold phc; omega) (fun s1 g2 e3 => ?_)
  have f4 : In 1 1 (sI s1 113 y1.toNatClampNeg) := In_eqw e3 (In_w (by decide : In 1 1 (1 : Int32)) (by decide) (by decide))
  exact t_M_line_L37   kr_FU s1 x0 x1 (0 : Int32) (0 : Int32) (Rlweak g2 (by decide +kernel) (by decide) (by decide)) h_x0 (In_w h_x1 (by decide) (by decide)) (In_w (by decide : In 0 0 (0 : Int32)) (by decide) (by decide))  (by decide)
theorem t_M_line_B32_2t166_4c0 {T : Nat → Nat} {S0 S : AS} (g : Rl T kw_M4 S0 0 0 T S) {x0 : Option Nat} {x1 : Int32} {y0 : Option Nat} {y1 : Int32} (h_x0 : Tx T 100 x0) (h_x1 : In 0 3 x1) (h_y0 : Tx T 166 y0) (h_y1 : In 0 3 y1) : Ho (f_M_line_B32  S x0 x1 y0 y1 (0 : Int32)) (fun q => Rl T kw_M93 S0 0 0 T q.2 ∧ True) := by
  unfold f_M_line_B32
  refine r_bZs (w' := kw_M92) g h_y0 rfl (p := 113) rfl rfl (In_w h_y1 (by decide) (by decide) : In 0 3 y1) (by decide) (In_w (by decide : In 0 0 (0 : Int32)) (by decide) (by decide)) (fun _ _ _ q => by cases q; exact (In_w (by decide : In 0 0 (0 : Int32)) (by decide) (by decide))) (fun _ => rfl) (by decide) (by decide +kernel) (fun _ => by unfold phc; omega) (fun s1 g2 e3 => ?_)
  have f4 : In 0 0 (sI s1 113 y1.toNatClampNeg) := In_eqw e3 (In_w (by decide : In 0 0 (0 : Int32)) (by decide) (by decide))
  exact t_M_line_L37   kr_FU s1 x0 x1 (0 : Int32) (0 : Int32) (Rlweak g2 (by decide +kernel) (by decide) (by decide)) h_x0 (In_w h_x1 (by decide) (by decide)) (In_w (by decide : In 0 0 (0 : Int32)) (by decide) (by decide))  (by decide)
theorem t_M_line {T : Nat → Nat} {S : AS} (hT : TI T S) {a0 : Option Nat} {a1 : Int32} (h_a0 : Tx T 100 a0) : Ho (f_M_line  S a0 a1) (fun q => Rl T kw_M93 S 0 0 T q.2 ∧ True) := by
  have g0 := Rlrf hT
  unfold f_M_line
  refine r_spl (u_isService _ _) (fun q1 => ?_) ?_
  · have q2 : In 0 3 a1 := In_w q1 (by decide) (by decide)
    refine r_rv g0.1 h_a0 rfl ?_
    refine r_may (w' := kw_M4) g0 h_a0 (In_w (by decide : In 1 1 (1 : Int32)) (by decide) (by decide)) (by decide +kernel) (fun s3 g4 g4e c5 => ?_) (fun s3 g4 g4e => ?_)
    · refine r_ifF (by decide) ?_
      refine r_gR g4.1 h_a0 rfl rfl (fun v23 h6 => ?_)
      refine r_gR g4.1 h_a0 rfl rfl (fun v24 h7 => ?_)
      refine r_aIs g4.1 h7 rfl (p := 113) rfl rfl (In_w q2 (by decide) (by decide) : In 0 3 a1) (by decide) (fun v25 b8 e9 => ?_)
      have q10 : In 0 1 v25 := b8 _ _ rfl
      refine r_if (fun c11 => ?_) (fun c11 => ?_)
      · have q12 : In 0 0 v25 := In_w (In_eq c11 (by decide : In 0 0 (0 : Int32))) (by decide) (by decide)
        exact t_M_line_B32_2t166_4c1 (Rlweak g4 (by decide +kernel) (by decide) (by decide))  h_a0 (In_w q2 (by decide) (by decide)) h6 (In_w q2 (by decide) (by decide)) 
      · have q13 : In 1 1 v25 := In_w (In_neL c11 q10 (by decide)) (by decide) (by decide)
        exact t_M_line_B32_2t166_4c0 (Rlweak g4 (by decide +kernel) (by decide) (by decide))  h_a0 (In_w q2 (by decide) (by decide)) h6 (In_w q2 (by decide) (by decide)) 
    · refine r_ifT (by decide) ?_
      exact r_some ⟨(Rlweak g4 (by decide +kernel) (by decide) (by decide)), trivial⟩
  · refine r_rv g0.1 h_a0 rfl ?_
    refine r_may (w' := kw_M4) g0 h_a0 (In_w (by decide : In 0 0 (0 : Int32)) (by decide) (by decide)) (by decide +kernel) (fun s14 g15 g15e c16 => ?_) (fun s14 g15 g15e => ?_)
    · exact absurd rfl c16
    · refine r_ifT (by decide) ?_
      exact r_some ⟨(Rlweak g15 (by decide +kernel) (by decide) (by decide)), trivial⟩
theorem t_M_check_B150_5t167_8c0 {T : Nat → Nat} {S0 S : AS} (g : Rl T kw_M94 S0 0 0 T S) {x0 : Option Nat} {x1 : Int32} {x2 : Int32} {x3 : Int32} {x5 : Int32} {y0 : Option Nat} {y1 : Int32} {y2 : Int32} {k119 : AS → Option Nat → Int32 → Int32 → Int32 → Int32 → Option (Int32 × AS)} {n119 : Nat} (hk119 : ∀ (S' : AS) (z0 : Option Nat) (z1 : Int32) (z2 : Int32) (z3 : Int32) (z4 : Int32), Rl T kw_M94 S0 0 0 T S' → Tx T 100 z0 → In 0 3 z1 → In 0 199 z2 → In 0 3 z3 → In 0 20 z4 → (20 + 1 : Int) ≤ z4.toInt + (n119 : Int) → Ho (k119 S' z0 z1 z2 z3 z4) (fun q => Rl T kw_M95 S0 0 0 T q.2 ∧ In 0 5 q.1)) (hm119 : (20 + 1 : Int) ≤ x5.toInt + ((n119 + 1 : Nat) : Int)) (h_x0 : Tx T 100 x0) (h_x1 : In 0 3 x1) (h_x2 : In 0 199 x2) (h_x3 : In 0 3 x3) (h_x5 : In 0 19 x5) (h_y0 : Tx T 167 y0) (h_y1 : In 0 3 y1) : Ho (f_M_check_B150 k119 S x0 x1 x2 x3 x5 y0 y1 y2 (0 : Int32)) (fun q => Rl T kw_M95 S0 0 0 T q.2 ∧ In 0 5 q.1) := by
  unfold f_M_check_B150
  refine r_bIs (w' := kw_M94) g h_y0 rfl (p := 114) rfl rfl (In_w h_y1 (by decide) (by decide) : In 0 3 y1) (by decide) (fun _ _ _ q => by cases q) (fun _ => rfl) (by decide) (by decide +kernel) (fun _ => by unfold phc; omega) (fun s1 g2 e3 => ?_)
  refine r_val ?_
  generalize ei2 : (x5 + (1 : Int32)) = i2
  have qi2 : In 1 20 i2 := by rw [← ei2]; exact (In_w (In_add h_x5 (by decide : In 1 1 (1 : Int32)) (by decide) (by decide)) (by decide) (by decide) : In 1 20 (x5 + (1 : Int32)))
  exact hk119 s1 x0 x1 x2 x3 i2 (Rlweak g2 (by decide +kernel) (by decide) (by decide)) h_x0 (In_w h_x1 (by decide) (by decide)) (In_w h_x2 (by decide) (by decide)) (In_w h_x3 (by decide) (by decide)) (In_w qi2 (by decide) (by decide))  (by rw [← ei2, toInt_add1 h_x5 (by decide) (by decide)]; omega)
theorem t_M_check_B150_5t167 {T : Nat → Nat} {S0 S : AS} (g : Rl T kw_M94 S0 0 0 T S) {x0 : Option Nat} {x1 : Int32} {x2 : Int32} {x3 : Int32} {x5 : Int32} {y0 : Option Nat} {y1 : Int32} {y2 : Int32} {y3 : Int32} {k119 : AS → Option Nat → Int32 → Int32 → Int32 → Int32 → Option (Int32 × AS)} {n119 : Nat} (hk119 : ∀ (S' : AS) (z0 : Option Nat) (z1 : Int32) (z2 : Int32) (z3 : Int32) (z4 : Int32), Rl T kw_M94 S0 0 0 T S' → Tx T 100 z0 → In 0 3 z1 → In 0 199 z2 → In 0 3 z3 → In 0 20 z4 → (20 + 1 : Int) ≤ z4.toInt + (n119 : Int) → Ho (k119 S' z0 z1 z2 z3 z4) (fun q => Rl T kw_M95 S0 0 0 T q.2 ∧ In 0 5 q.1)) (hm119 : (20 + 1 : Int) ≤ x5.toInt + ((n119 + 1 : Nat) : Int)) (h_x0 : Tx T 100 x0) (h_x1 : In 0 3 x1) (h_x2 : In 0 199 x2) (h_x3 : In 0 3 x3) (h_x5 : In 0 19 x5) (h_y0 : Tx T 167 y0) (h_y1 : In 0 3 y1) : Ho (f_M_check_B150 k119 S x0 x1 x2 x3 x5 y0 y1 y2 y3) (fun q => Rl T kw_M95 S0 0 0 T q.2 ∧ In 0 5 q.1) := by
  unfold f_M_check_B150
  refine r_bIs (w' := kw_M94) g h_y0 rfl (p := 114) rfl rfl (In_w h_y1 (by decide) (by decide) : In 0 3 y1) (by decide) (fun _ _ _ q => by cases q) (fun _ => rfl) (by decide) (by decide +kernel) (fun _ => by unfold phc; omega) (fun s1 g2 e3 => ?_)
  refine r_val ?_
  generalize ei2 : (x5 + (1 : Int32)) = i2
  have qi2 : In 1 20 i2 := by rw [← ei2]; exact (In_w (In_add h_x5 (by decide : In 1 1 (1 : Int32)) (by decide) (by decide)) (by decide) (by decide) : In 1 20 (x5 + (1 : Int32)))
  exact hk119 s1 x0 x1 x2 x3 i2 (Rlweak g2 (by decide +kernel) (by decide) (by decide)) h_x0 (In_w h_x1 (by decide) (by decide)) (In_w h_x2 (by decide) (by decide)) (In_w h_x3 (by decide) (by decide)) (In_w qi2 (by decide) (by decide))  (by rw [← ei2, toInt_add1 h_x5 (by decide) (by decide)]; omega)
theorem t_M_check_B168 {T : Nat → Nat} {S0 S : AS} (g : Rl T kw_M95 S0 0 0 T S) {x0 : Option Nat} {x1 : Int32} {x2 : Int32} {x3 : Int32} (h_x0 : Tx T 100 x0) (h_x1 : In 0 3 x1) (h_x2 : In 0 199 x2) (h_x3 : In 0 3 x3) : Ho (f_M_check_B168  S x0 x1 x2 x3) (fun q => Rl T kw_M95 S0 0 0 T q.2 ∧ In 0 5 q.1) := by
  unfold f_M_check_B168
  refine r_gR g.1 h_x0 rfl rfl (fun v3 h1 => ?_)
  refine r_aIs g.1 h1 rfl (p := 114) rfl rfl (In_w h_x1 (by decide) (by decide) : In 0 3 x1) (by decide) (fun v4 b2 e3 => ?_)
  refine r_gR g.1 h_x0 rfl rfl (fun v5 h4 => ?_)
  refine r_aIs g.1 h4 rfl (p := 109) rfl rfl (In_w h_x2 (by decide) (by decide) : In 0 199 x2) (by decide) (fun v6 b5 e6 => ?_)
  have q7 : In 0 19 v6 := b5 _ _ rfl
  refine r_if (fun c8 => ?_) (fun c8 => ?_)
  · exact r_some ⟨(Rlweak g (by decide +kernel) (by decide) (by decide)), (In_w (by decide : In 3 3 (3 : Int32)) (by decide) (by decide))⟩
  · refine r_gR g.1 h_x0 rfl rfl (fun v7 h9 => ?_)
    refine r_gR g.1 h_x0 rfl rfl (fun v8 h10 => ?_)
    refine r_aIs g.1 h10 rfl (p := 108) rfl rfl (In_w h_x2 (by decide) (by decide) : In 0 199 x2) (by decide) (fun v9 b11 e12 => ?_)
    have q13 : In 0 59 v9 := b11 _ _ rfl
    refine r_aIs g.1 h9 rfl (p := 116) rfl rfl (In_w (In_w (In_add (In_w (In_mulc (k := 60) h_x1 (by decide) (by decide) (by decide) (by decide)) (by decide) (by decide) : In 0 180 ((60 : Int32) * x1)) q13 (by decide) (by decide)) (by decide) (by decide) : In 0 239 (((60 : Int32) * x1) + v9)) (by decide) (by decide) : In 0 239 (((60 : Int32) * x1) + v9)) (by decide) (fun v10 b14 e15 => ?_)
    have q16 : In 0 1 v10 := b14 _ _ rfl
    refine r_if (fun c17 => ?_) (fun c17 => ?_)
    · have q18 : In 0 0 v10 := In_w (In_eq c17 (by decide : In 0 0 (0 : Int32))) (by decide) (by decide)
      refine r_gR g.1 h_x0 rfl rfl (fun v11 h19 => ?_)
      refine r_aIs g.1 h19 rfl (p := 106) rfl rfl (In_w h_x2 (by decide) (by decide) : In 0 199 x2) (by decide) (fun v12 b20 e21 => ?_)
      refine r_if (fun c22 => ?_) (fun c22 => ?_)
      · exact r_some ⟨(Rlweak g (by decide +kernel) (by decide) (by decide)), (In_w (by decide : In 5 5 (5 : Int32)) (by decide) (by decide))⟩
      · exact r_some ⟨(Rlweak g (by decide +kernel) (by decide) (by decide)), (In_w (by decide : In 0 0 (0 : Int32)) (by decide) (by decide))⟩
    · have q23 : In 1 1 v10 := In_w (In_neL c17 q16 (by decide)) (by decide) (by decide)
      exact r_some ⟨(Rlweak g (by decide +kernel) (by decide) (by decide)), (In_w (by decide : In 4 4 (4 : Int32)) (by decide) (by decide))⟩
theorem t_M_check_C119 {T : Nat → Nat} {S0 S : AS} (g : Rl T kw_M94 S0 0 0 T S) {x0 : Option Nat} {x1 : Int32} {x2 : Int32} {x3 : Int32} {x5 : Int32} {k119 : AS → Option Nat → Int32 → Int32 → Int32 → Int32 → Option (Int32 × AS)} {n119 : Nat} (hk119 : ∀ (S' : AS) (z0 : Option Nat) (z1 : Int32) (z2 : Int32) (z3 : Int32) (z4 : Int32), Rl T kw_M94 S0 0 0 T S' → Tx T 100 z0 → In 0 3 z1 → In 0 199 z2 → In 0 3 z3 → In 0 20 z4 → (20 + 1 : Int) ≤ z4.toInt + (n119 : Int) → Ho (k119 S' z0 z1 z2 z3 z4) (fun q => Rl T kw_M95 S0 0 0 T q.2 ∧ In 0 5 q.1)) (hm119 : (20 + 1 : Int) ≤ x5.toInt + ((n119 + 1 : Nat) : Int)) (h_x0 : Tx T 100 x0) (h_x1 : In 0 3 x1) (h_x2 : In 0 199 x2) (h_x3 : In 0 3 x3) (h_x5 : In 0 20 x5) : Ho (f_M_check_C119 k119 S x0 x1 x2 x3 x5) (fun q => Rl T kw_M95 S0 0 0 T q.2 ∧ In 0 5 q.1) := by
  unfold f_M_check_C119
  refine r_if (fun c1 => ?_) (fun c1 => ?_)
  · have q2 : In 20 20 x5 := In_w (In_le2 c1 (by decide : In 20 20 (20 : Int32)) h_x5) (by decide) (by decide)
    refine r_gR g.1 h_x0 rfl rfl (fun v13 h3 => ?_)
    refine r_gIs g.1 h_x0 rfl (p := 57) rfl (fun v14 b4 e5 => ?_)
    refine r_bIs (w' := kw_M95) g h3 rfl (p := 115) rfl rfl (In_w h_x1 (by decide) (by decide) : In 0 3 x1) (by decide) (fun _ _ _ q => by cases q) (fun _ => rfl) (by decide) (by decide +kernel) (fun _ => by unfold phc; omega) (fun s6 g7 e8 => ?_)
    exact t_M_check_B168 (Rlweak g7 (by decide +kernel) (by decide) (by decide))  h_x0 (In_w h_x1 (by decide) (by decide)) (In_w h_x2 (by decide) (by decide)) (In_w h_x3 (by decide) (by decide)) 
  · have q9 : In 0 19 x5 := In_w (In_lt1 (Int32.not_le.mp c1) h_x5 (by decide : In 20 20 (20 : Int32))) (by decide) (by decide)
    refine r_gR g.1 h_x0 rfl rfl (fun v16 h10 => ?_)
    refine r_aIs g.1 h10 rfl (p := 114) rfl rfl (In_w h_x1 (by decide) (by decide) : In 0 3 x1) (by decide) (fun v17 b11 e12 => ?_)
    refine r_rv g.1 h_x0 rfl ?_
    refine r_P (P := fun v => In 0 1 v) (t_M_isOpenKey g.1 h_x0 (In_w q9 (by decide) (by decide))) (fun v20 h13 => ?_)
    refine r_if (fun c14 => ?_) (fun c14 => ?_)
    · have q15 : In 0 0 v20 := In_w (In_eq c14 (by decide : In 0 0 (0 : Int32))) (by decide) (by decide)
      exact t_M_check_B150_5t167_8c0 (Rlweak g (by decide +kernel) (by decide) (by decide)) hk119 hm119 h_x0 (In_w h_x1 (by decide) (by decide)) (In_w h_x2 (by decide) (by decide)) (In_w h_x3 (by decide) (by decide)) (In_w q9 (by decide) (by decide)) h10 (In_w h_x1 (by decide) (by decide)) 
    · have q16 : In 1 1 v20 := In_w (In_neL c14 h13 (by decide)) (by decide) (by decide)
      exact t_M_check_B150_5t167 (Rlweak g (by decide +kernel) (by decide) (by decide)) hk119 hm119 h_x0 (In_w h_x1 (by decide) (by decide)) (In_w h_x2 (by decide) (by decide)) (In_w h_x3 (by decide) (by decide)) (In_w q9 (by decide) (by decide)) h10 (In_w h_x1 (by decide) (by decide)) 
theorem t_M_check_L119 {T : Nat → Nat} {S0 : AS} : ∀ (n : Nat) (S : AS) (x0 : Option Nat) (x1 : Int32) (x2 : Int32) (x3 : Int32) (x5 : Int32), Rl T kw_M94 S0 0 0 T S → Tx T 100 x0 → In 0 3 x1 → In 0 199 x2 → In 0 3 x3 → In 0 20 x5 → (20 + 1 : Int) ≤ x5.toInt + (n : Int) → Ho (f_M_check_L119  n S x0 x1 x2 x3 x5) (fun q => Rl T kw_M95 S0 0 0 T q.2 ∧ In 0 5 q.1) := by
  intro n
  induction n with
  | zero =>
    intro S x0 x1 x2 x3 x5 g h_x0 h_x1 h_x2 h_x3 h_x5 hm
    exact absurd hm (by have := h_x5.2; omega)
  | succ n ih =>
    intro S x0 x1 x2 x3 x5 g h_x0 h_x1 h_x2 h_x3 h_x5 hm
    exact t_M_check_C119 g  (fun S' z0 z1 z2 z3 z4 g' a_h_x0 a_h_x1 a_h_x2 a_h_x3 a_h_x5 am => ih S' z0 z1 z2 z3 z4 g' a_h_x0 a_h_x1 a_h_x2 a_h_x3 a_h_x5 am) hm h_x0 h_x1 h_x2 h_x3 h_x5 
theorem t_M_check_B109 {T : Nat → Nat} {S0 S : AS} (g : Rl T kw_M4 S0 0 0 T S) {x0 : Option Nat} {x1 : Int32} {x2 : Int32} {x3 : Int32} (h_x0 : Tx T 100 x0) (h_x1 : In 0 3 x1) (h_x2 : In 0 199 x2) (h_x3 : In 0 3 x3) : Ho (f_M_check_B109  S x0 x1 x2 x3) (fun q => Rl T kw_M95 S0 0 0 T q.2 ∧ In 0 5 q.1) := by
  unfold f_M_check_B109
  refine r_gR g.1 h_x0 rfl rfl (fun v21 h1 => ?_)
  refine r_bIs (w' := kw_M94) g h1 rfl (p := 114) rfl rfl (In_w h_x1 (by decide) (by decide) : In 0 3 x1) (by decide) (fun _ _ _ q => by cases q) (fun _ => rfl) (by decide) (by decide +kernel) (fun _ => by unfold phc; omega) (fun s2 g3 e4 => ?_)
  have f5 : In 0 0 (sI s2 114 x1.toNatClampNeg) := In_eqw e4 (In_w (by decide : In 0 0 (0 : Int32)) (by decide) (by decide))
  exact t_M_check_L119   kr_FU s2 x0 x1 x2 x3 (0 : Int32) (Rlweak g3 (by decide +kernel) (by decide) (by decide)) h_x0 (In_w h_x1 (by decide) (by decide)) (In_w h_x2 (by decide) (by decide)) (In_w h_x3 (by decide) (by decide)) (In_w (by decide : In 0 0 (0 : Int32)) (by decide) (by decide))  (by decide)
theorem t_M_check_B20_4c1 {T : Nat → Nat} {S0 S : AS} (g : Rl T [] S0 0 0 T S) {x0 : Option Nat} {x1 : Int32} {x2 : Int32} {x3 : Int32} (h_x0 : Tx T 100 x0) (h_x1 : In 0 3 x1) (h_x2 : In 0 199 x2) : Ho (f_M_check_B20  S x0 x1 x2 x3 (1 : Int32)) (fun q => Rl T kw_M95 S0 0 0 T q.2 ∧ In 0 5 q.1) := by
  unfold f_M_check_B20
  refine r_Mi (fun p1 p1b => ?_) ?_
  · have q2 : In 0 2147483647 x3 := In_w (In_le2 p1 (by decide : In 0 0 (0 : Int32)) (In_top x3)) (by decide) (by decide)
    have q3 : In 0 3 x3 := In_w (In_le1 p1b q2 (by decide : In 3 3 (3 : Int32))) (by decide) (by decide)
    refine r_rv g.1 h_x0 rfl ?_
    refine r_mayBoth (w' := kw_M4) g h_x0 (by decide +kernel) (fun s4 g5 g5e c6 c7 => ?_) (fun s4 g5 g5e => ?_)
    · refine r_ifF (by decide) ?_
      refine r_gR g5.1 h_x0 rfl rfl (fun v28 h8 => ?_)
      refine r_aIs g5.1 h8 rfl (p := 105) rfl rfl (In_w h_x2 (by decide) (by decide) : In 0 199 x2) (by decide) (fun v29 b9 e10 => ?_)
      have q11 : In 0 3 v29 := b9 _ _ rfl
      refine r_if (fun c12 => ?_) (fun c12 => ?_)
      · refine r_gIs g5.1 h_x0 rfl (p := 57) rfl (fun v30 b13 e14 => ?_)
        refine r_gR g5.1 h_x0 rfl rfl (fun v31 h15 => ?_)
        refine r_aIs g5.1 h15 rfl (p := 110) rfl rfl (In_w h_x2 (by decide) (by decide) : In 0 199 x2) (by decide) (fun v32 b16 e17 => ?_)
        refine r_if (fun c18 => ?_) (fun c18 => ?_)
        · refine r_gR g5.1 h_x0 rfl rfl (fun v33 h19 => ?_)
          refine r_aIs g5.1 h19 rfl (p := 113) rfl rfl (In_w h_x1 (by decide) (by decide) : In 0 3 x1) (by decide) (fun v34 b20 e21 => ?_)
          have q22 : In 0 1 v34 := b20 _ _ rfl
          refine r_if (fun c23 => ?_) (fun c23 => ?_)
          · have q24 : In 0 0 v34 := In_w (In_eq c23 (by decide : In 0 0 (0 : Int32))) (by decide) (by decide)
            refine r_gIs g5.1 h_x0 rfl (p := 57) rfl (fun v35 b25 e26 => ?_)
            refine r_gR g5.1 h_x0 rfl rfl (fun v36 h27 => ?_)
            refine r_aIs g5.1 h27 rfl (p := 115) rfl rfl (In_w h_x1 (by decide) (by decide) : In 0 3 x1) (by decide) (fun v37 b28 e29 => ?_)
            refine r_if (fun c30 => ?_) (fun c30 => ?_)
            · exact t_M_check_B109 (Rlweak g5 (by decide +kernel) (by decide) (by decide))  h_x0 (In_w h_x1 (by decide) (by decide)) (In_w h_x2 (by decide) (by decide)) (In_w q3 (by decide) (by decide))
            · refine r_gR g5.1 h_x0 rfl rfl (fun v38 h31 => ?_)
              refine r_aIs g5.1 h31 rfl (p := 114) rfl rfl (In_w h_x1 (by decide) (by decide) : In 0 3 x1) (by decide) (fun v39 b32 e33 => ?_)
              refine r_gR g5.1 h_x0 rfl rfl (fun v40 h34 => ?_)
              refine r_aIs g5.1 h34 rfl (p := 109) rfl rfl (In_w h_x2 (by decide) (by decide) : In 0 199 x2) (by decide) (fun v41 b35 e36 => ?_)
              have q37 : In 0 19 v41 := b35 _ _ rfl
              refine r_if (fun c38 => ?_) (fun c38 => ?_)
              · exact t_M_check_B109 (Rlweak g5 (by decide +kernel) (by decide) (by decide))  h_x0 (In_w h_x1 (by decide) (by decide)) (In_w h_x2 (by decide) (by decide)) (In_w q3 (by decide) (by decide))
              · exact t_M_check_B168 (Rlweak g5 (by decide +kernel) (by decide) (by decide))  h_x0 (In_w h_x1 (by decide) (by decide)) (In_w h_x2 (by decide) (by decide)) (In_w q3 (by decide) (by decide))
          · have q39 : In 1 1 v34 := In_w (In_neL c23 q22 (by decide)) (by decide) (by decide)
            exact t_M_check_B168 (Rlweak g5 (by decide +kernel) (by decide) (by decide))  h_x0 (In_w h_x1 (by decide) (by decide)) (In_w h_x2 (by decide) (by decide)) (In_w q3 (by decide) (by decide)) 
        · have q40 : In (-2147483648) 2147483646 v32 := In_w (In_lt1 (Int32.not_le.mp c18) (In_top v32) (In_top v30)) (by decide) (by decide)
          have q41 : In (-2147483647) 2147483647 v30 := In_w (In_lt2 (Int32.not_le.mp c18) (In_top v32) (In_top v30)) (by decide) (by decide)
          exact r_some ⟨(Rlweak g5 (by decide +kernel) (by decide) (by decide)), (In_w (by decide : In 2 2 (2 : Int32)) (by decide) (by decide))⟩
      · exact r_some ⟨(Rlweak g5 (by decide +kernel) (by decide) (by decide)), (In_w (by decide : In 1 1 (1 : Int32)) (by decide) (by decide))⟩
    · refine r_ifT (by decide) ?_
      exact r_some ⟨(Rlweak g5 (by decide +kernel) (by decide) (by decide)), (In_w (by decide : In 0 0 (0 : Int32)) (by decide) (by decide))⟩
  · refine r_rv g.1 h_x0 rfl ?_
    refine r_mayBoth (w' := kw_M4) g h_x0 (by decide +kernel) (fun s42 g43 g43e c44 c45 => ?_) (fun s42 g43 g43e => ?_)
    · exact absurd rfl c45
    · refine r_ifT (by decide) ?_
      exact r_some ⟨(Rlweak g43 (by decide +kernel) (by decide) (by decide)), (In_w (by decide : In 0 0 (0 : Int32)) (by decide) (by decide))⟩
theorem t_M_check_B20_4c0 {T : Nat → Nat} {S0 S : AS} (g : Rl T [] S0 0 0 T S) {x0 : Option Nat} {x1 : Int32} {x2 : Int32} {x3 : Int32} (h_x0 : Tx T 100 x0) : Ho (f_M_check_B20  S x0 x1 x2 x3 (0 : Int32)) (fun q => Rl T kw_M95 S0 0 0 T q.2 ∧ In 0 5 q.1) := by
  unfold f_M_check_B20
  refine r_Mi (fun p1 p1b => ?_) ?_
  · have q2 : In 0 2147483647 x3 := In_w (In_le2 p1 (by decide : In 0 0 (0 : Int32)) (In_top x3)) (by decide) (by decide)
    have q3 : In 0 3 x3 := In_w (In_le1 p1b q2 (by decide : In 3 3 (3 : Int32))) (by decide) (by decide)
    refine r_rv g.1 h_x0 rfl ?_
    refine r_mayBoth (w' := kw_M4) g h_x0 (by decide +kernel) (fun s4 g5 g5e c6 c7 => ?_) (fun s4 g5 g5e => ?_)
    · exact absurd rfl c6
    · refine r_ifT (by decide) ?_
      exact r_some ⟨(Rlweak g5 (by decide +kernel) (by decide) (by decide)), (In_w (by decide : In 0 0 (0 : Int32)) (by decide) (by decide))⟩
  · refine r_rv g.1 h_x0 rfl ?_
    refine r_mayBoth (w' := kw_M4) g h_x0 (by decide +kernel) (fun s8 g9 g9e c10 c11 => ?_) (fun s8 g9 g9e => ?_)
    · exact absurd rfl c10
    · refine r_ifT (by decide) ?_
      exact r_some ⟨(Rlweak g9 (by decide +kernel) (by decide) (by decide)), (In_w (by decide : In 0 0 (0 : Int32)) (by decide) (by decide))⟩
theorem t_M_check_B19 {T : Nat → Nat} {S0 S : AS} (g : Rl T [] S0 0 0 T S) {x0 : Option Nat} {x1 : Int32} {x2 : Int32} {x3 : Int32} (h_x0 : Tx T 100 x0) : Ho (f_M_check_B19  S x0 x1 x2 x3) (fun q => Rl T kw_M95 S0 0 0 T q.2 ∧ In 0 5 q.1) := by
  unfold f_M_check_B19
  exact t_M_check_B20_4c0 (Rlweak g (by decide +kernel) (by decide) (by decide))  h_x0 
theorem t_M_check {T : Nat → Nat} {S : AS} (hT : TI T S) {a0 : Option Nat} {a1 : Int32} {a2 : Int32} {a3 : Int32} (h_a0 : Tx T 100 a0) : Ho (f_M_check  S a0 a1 a2 a3) (fun q => Rl T kw_M95 S 0 0 T q.2 ∧ In 0 5 q.1) := by
  have g0 := Rlrf hT
  unfold f_M_check
  refine r_spl (u_isService _ _) (fun q1 => ?_) ?_
  · have q2 : In 0 3 a1 := In_w q1 (by decide) (by decide)
    refine r_ifF (by decide) ?_
    refine r_rv g0.1 h_a0 rfl ?_
    refine r_spl (u_isToken g0.1 h_a0) (fun q3 => ?_) ?_
    · have q4 : In 0 199 a2 := In_w q3.1 (by decide) (by decide)
      refine r_ifF (by decide) ?_
      exact t_M_check_B20_4c1 (Rlweak g0 (by decide +kernel) (by decide) (by decide))  h_a0 (In_w q2 (by decide) (by decide)) (In_w q4 (by decide) (by decide)) 
    · refine r_ifT (by decide) ?_
      exact t_M_check_B19 (Rlweak g0 (by decide +kernel) (by decide) (by decide))  h_a0 
  · refine r_ifT (by decide) ?_
    exact t_M_check_B19 (Rlweak g0 (by decide +kernel) (by decide) (by decide))  h_a0 
theorem t_M_lag_B70_2c1 {T : Nat → Nat} {S0 S : AS} (g : Rl T kw_M4 S0 0 0 T S) {x0 : Option Nat} {x1 : Int32} (h_x0 : Tx T 100 x0) (h_x1 : In 0 199 x1) : Ho (f_M_lag_B70  S x0 x1 (1 : Int32)) (fun q => Rl T kw_M4 S0 0 0 T q.2 ∧ True) := by
  unfold f_M_lag_B70
  refine r_ifF (by decide) ?_
  refine r_gR g.1 h_x0 rfl rfl (fun v1 h1 => ?_)
  refine r_aIs g.1 h1 rfl (p := 110) rfl rfl (In_w h_x1 (by decide) (by decide) : In 0 199 x1) (by decide) (fun v2 b2 e3 => ?_)
  refine r_gIs g.1 h_x0 rfl (p := 57) rfl (fun v3 b4 e5 => ?_)
  exact r_some ⟨(Rlweak g (by decide +kernel) (by decide) (by decide)), trivial⟩
theorem t_M_lag_B70_2c0 {T : Nat → Nat} {S0 S : AS} (g : Rl T kw_M4 S0 0 0 T S) {x0 : Option Nat} {x1 : Int32} (h_x0 : Tx T 100 x0) (h_x1 : In 0 199 x1) : Ho (f_M_lag_B70  S x0 x1 (0 : Int32)) (fun q => Rl T kw_M4 S0 0 0 T q.2 ∧ True) := by
  unfold f_M_lag_B70
  refine r_ifT (by decide) ?_
  exact r_some ⟨(Rlweak g (by decide +kernel) (by decide) (by decide)), trivial⟩
theorem t_M_lag_B69 {T : Nat → Nat} {S0 S : AS} (g : Rl T kw_M4 S0 0 0 T S) {x0 : Option Nat} {x1 : Int32} (h_x0 : Tx T 100 x0) (h_x1 : In 0 199 x1) : Ho (f_M_lag_B69  S x0 x1) (fun q => Rl T kw_M4 S0 0 0 T q.2 ∧ True) := by
  unfold f_M_lag_B69
  exact t_M_lag_B70_2c0 (Rlweak g (by decide +kernel) (by decide) (by decide))  h_x0 (In_w h_x1 (by decide) (by decide)) 
theorem t_M_lag {T : Nat → Nat} {S : AS} (hT : TI T S) {a0 : Option Nat} {a1 : Int32} (h_a0 : Tx T 100 a0) : Ho (f_M_lag  S a0 a1) (fun q => Rl T kw_M4 S 0 0 T q.2 ∧ True) := by
  have g0 := Rlrf hT
  unfold f_M_lag
  refine r_rv g0.1 h_a0 rfl ?_
  refine r_spl (u_isToken g0.1 h_a0) (fun q1 => ?_) ?_
  · have q2 : In 0 199 a1 := In_w q1.1 (by decide) (by decide)
    refine r_rv g0.1 h_a0 rfl ?_
    refine r_may (w' := kw_M4) g0 h_a0 (In_w (by decide : In 1 1 (1 : Int32)) (by decide) (by decide)) (by decide +kernel) (fun s3 g4 g4e c5 => ?_) (fun s3 g4 g4e => ?_)
    · refine r_ifF (by decide) ?_
      refine r_gR g4.1 h_a0 rfl rfl (fun v10 h6 => ?_)
      refine r_gR g4.1 h_a0 rfl rfl (fun v11 h7 => ?_)
      refine r_aIs g4.1 h7 rfl (p := 108) rfl rfl (In_w q2 (by decide) (by decide) : In 0 199 a1) (by decide) (fun v12 b8 e9 => ?_)
      have q10 : In 0 59 v12 := b8 _ _ rfl
      refine r_aIs g4.1 h6 rfl (p := 103) rfl rfl (In_w q10 (by decide) (by decide) : In 0 59 v12) (by decide) (fun v13 b11 e12 => ?_)
      have q13 : In 0 1 v13 := b11 _ _ rfl
      refine r_if (fun c14 => ?_) (fun c14 => ?_)
      · have q15 : In 0 0 v13 := In_w (In_eq c14 (by decide : In 0 0 (0 : Int32))) (by decide) (by decide)
        refine r_gR g4.1 h_a0 rfl rfl (fun v14 h16 => ?_)
        refine r_gR g4.1 h_a0 rfl rfl (fun v15 h17 => ?_)
        refine r_aIs g4.1 h17 rfl (p := 105) rfl rfl (In_w q2 (by decide) (by decide) : In 0 199 a1) (by decide) (fun v16 b18 e19 => ?_)
        have q20 : In 0 3 v16 := b18 _ _ rfl
        refine r_gR g4.1 h_a0 rfl rfl (fun v17 h21 => ?_)
        refine r_aIs g4.1 h21 rfl (p := 108) rfl rfl (In_w q2 (by decide) (by decide) : In 0 199 a1) (by decide) (fun v18 b22 e23 => ?_)
        have q24 : In 0 59 v18 := b22 _ _ rfl
        refine r_aIs g4.1 h16 rfl (p := 116) rfl rfl (In_w (In_w (In_add (In_w (In_mulc (k := 60) q20 (by decide) (by decide) (by decide) (by decide)) (by decide) (by decide) : In 0 180 ((60 : Int32) * v16)) q24 (by decide) (by decide)) (by decide) (by decide) : In 0 239 (((60 : Int32) * v16) + v18)) (by decide) (by decide) : In 0 239 (((60 : Int32) * v16) + v18)) (by decide) (fun v19 b25 e26 => ?_)
        have q27 : In 0 1 v19 := b25 _ _ rfl
        refine r_if (fun c28 => ?_) (fun c28 => ?_)
        · have q29 : In 0 0 v19 := In_w (In_eq c28 (by decide : In 0 0 (0 : Int32))) (by decide) (by decide)
          refine r_gIs g4.1 h_a0 rfl (p := 57) rfl (fun v20 b30 e31 => ?_)
          refine r_gR g4.1 h_a0 rfl rfl (fun v21 h32 => ?_)
          refine r_aIs g4.1 h32 rfl (p := 110) rfl rfl (In_w q2 (by decide) (by decide) : In 0 199 a1) (by decide) (fun v22 b33 e34 => ?_)
          refine r_if (fun c35 => ?_) (fun c35 => ?_)
          · have q36 : In (-2147483648) 2147483646 v22 := In_w (In_lt1 c35 (In_top v22) (In_top v20)) (by decide) (by decide)
            have q37 : In (-2147483647) 2147483647 v20 := In_w (In_lt2 c35 (In_top v22) (In_top v20)) (by decide) (by decide)
            exact t_M_lag_B69 (Rlweak g4 (by decide +kernel) (by decide) (by decide))  h_a0 (In_w q2 (by decide) (by decide)) 
          · exact t_M_lag_B70_2c1 (Rlweak g4 (by decide +kernel) (by decide) (by decide))  h_a0 (In_w q2 (by decide) (by decide))
        · have q38 : In 1 1 v19 := In_w (In_neL c28 q27 (by decide)) (by decide) (by decide)
          exact t_M_lag_B69 (Rlweak g4 (by decide +kernel) (by decide) (by decide))  h_a0 (In_w q2 (by decide) (by decide)) 
      · have q39 : In 1 1 v13 := In_w (In_neL c14 q13 (by decide)) (by decide) (by decide)
        exact t_M_lag_B69 (Rlweak g4 (by decide +kernel) (by decide) (by decide))  h_a0 (In_w q2 (by decide) (by decide)) 
    · refine r_ifT (by decide) ?_
      exact r_some ⟨(Rlweak g4 (by decide +kernel) (by decide) (by decide)), trivial⟩
  · refine r_rv g0.1 h_a0 rfl ?_
    refine r_may (w' := kw_M4) g0 h_a0 (In_w (by decide : In 0 0 (0 : Int32)) (by decide) (by decide)) (by decide +kernel) (fun s40 g41 g41e c42 => ?_) (fun s40 g41 g41e => ?_)
    · exact absurd rfl c42
    · refine r_ifT (by decide) ?_
      exact r_some ⟨(Rlweak g41 (by decide +kernel) (by decide) (by decide)), trivial⟩
theorem t_M_recover_B75_2c1_4c1_k_2c1_3c1 {T : Nat → Nat} {S0 S : AS} (g : Rl T [] S0 0 0 T S) {x0 : Option Nat} {x1 : Int32} {x4 : Int32} {k36 : AS → Option Nat → Int32 → Int32 → Int32 → Int32 → Option (Int32 × AS)} {n36 : Nat} (hk36 : ∀ (S' : AS) (z0 : Option Nat) (z1 : Int32) (z3 : Int32) (z4 : Int32), Rl T [] S0 0 0 T S' → Tx T 100 z0 → In 0 5 z1 → In 0 1 z3 → In 0 19 z4 → In 0 19 (sI S' 57 70) → (19 + 1 : Int) ≤ z4.toInt + (n36 : Int) → Ho (k36 S' z0 z1 (1 : Int32) z3 z4) (fun q => Rl T kw_M99 S0 0 0 T q.2 ∧ In 0 19 q.1)) (hm36 : (19 + 1 : Int) ≤ x4.toInt + ((n36 + 1 : Nat) : Int)) (h_x0 : Tx T 100 x0) (h_x1 : In 0 5 x1) (h_x4 : In 0 18 x4) (hx_57_70 : In 1 19 (sI S 57 70)) : Ho (f_M_recover_B75 k36 S x0 x1 (1 : Int32) x4 (1 : Int32)) (fun q => Rl T kw_M99 S0 0 0 T q.2 ∧ In 0 19 q.1) := by
  unfold f_M_recover_B75
  refine r_val ?_
  generalize ei1 : (x4 + (1 : Int32)) = i1
  have qi1 : In 1 19 i1 := by rw [← ei1]; exact (In_w (In_add h_x4 (by decide : In 1 1 (1 : Int32)) (by decide) (by decide)) (by decide) (by decide) : In 1 19 (x4 + (1 : Int32)))
  exact hk36 S x0 x1 (1 : Int32) i1 (Rlweak g (by decide +kernel) (by decide) (by decide)) h_x0 (In_w h_x1 (by decide) (by decide)) (In_w (by decide : In 1 1 (1 : Int32)) (by decide) (by decide)) (In_w qi1 (by decide) (by decide)) (In_w hx_57_70 (by decide) (by decide))  (by rw [← ei1, toInt_add1 h_x4 (by decide) (by decide)]; omega)
theorem t_M_recover_B75_2c1_4c0_k_2c1_3c1 {T : Nat → Nat} {S0 S : AS} (g : Rl T [] S0 0 0 T S) {x0 : Option Nat} {x1 : Int32} {x4 : Int32} {k36 : AS → Option Nat → Int32 → Int32 → Int32 → Int32 → Option (Int32 × AS)} {n36 : Nat} (hk36 : ∀ (S' : AS) (z0 : Option Nat) (z1 : Int32) (z3 : Int32) (z4 : Int32), Rl T [] S0 0 0 T S' → Tx T 100 z0 → In 0 5 z1 → In 0 1 z3 → In 0 19 z4 → In 0 19 (sI S' 57 70) → (19 + 1 : Int) ≤ z4.toInt + (n36 : Int) → Ho (k36 S' z0 z1 (1 : Int32) z3 z4) (fun q => Rl T kw_M99 S0 0 0 T q.2 ∧ In 0 19 q.1)) (hm36 : (19 + 1 : Int) ≤ x4.toInt + ((n36 + 1 : Nat) : Int)) (h_x0 : Tx T 100 x0) (h_x1 : In 0 5 x1) (h_x4 : In 0 18 x4) (hx_57_70 : In 1 19 (sI S 57 70)) : Ho (f_M_recover_B75 k36 S x0 x1 (1 : Int32) x4 (0 : Int32)) (fun q => Rl T kw_M99 S0 0 0 T q.2 ∧ In 0 19 q.1) := by
  unfold f_M_recover_B75
  refine r_val ?_
  generalize ei1 : (x4 + (1 : Int32)) = i1
  have qi1 : In 1 19 i1 := by rw [← ei1]; exact (In_w (In_add h_x4 (by decide : In 1 1 (1 : Int32)) (by decide) (by decide)) (by decide) (by decide) : In 1 19 (x4 + (1 : Int32)))
  exact hk36 S x0 x1 (0 : Int32) i1 (Rlweak g (by decide +kernel) (by decide) (by decide)) h_x0 (In_w h_x1 (by decide) (by decide)) (In_w (by decide : In 0 0 (0 : Int32)) (by decide) (by decide)) (In_w qi1 (by decide) (by decide)) (In_w hx_57_70 (by decide) (by decide))  (by rw [← ei1, toInt_add1 h_x4 (by decide) (by decide)]; omega)
theorem t_M_recover_B75_2c1_4c0_k_2c1_3c0 {T : Nat → Nat} {S0 S : AS} (g : Rl T [] S0 0 0 T S) {x0 : Option Nat} {x1 : Int32} {x4 : Int32} {k36 : AS → Option Nat → Int32 → Int32 → Int32 → Int32 → Option (Int32 × AS)} {n36 : Nat} (hk36 : ∀ (S' : AS) (z0 : Option Nat) (z1 : Int32) (z4 : Int32), Rl T [] S0 0 0 T S' → Tx T 100 z0 → In 0 5 z1 → In 0 20 z4 → (20 + 1 : Int) ≤ z4.toInt + (n36 : Int) → Ho (k36 S' z0 z1 (1 : Int32) (0 : Int32) z4) (fun q => Rl T kw_M99 S0 0 0 T q.2 ∧ In 0 19 q.1)) (hm36 : (20 + 1 : Int) ≤ x4.toInt + ((n36 + 1 : Nat) : Int)) (h_x0 : Tx T 100 x0) (h_x1 : In 0 5 x1) (h_x4 : In 0 19 x4) (hx_57_70 : In 1 20 (sI S 57 70)) : Ho (f_M_recover_B75 k36 S x0 x1 (1 : Int32) x4 (0 : Int32)) (fun q => Rl T kw_M99 S0 0 0 T q.2 ∧ In 0 19 q.1) := by
  unfold f_M_recover_B75
  refine r_val ?_
  generalize ei1 : (x4 + (1 : Int32)) = i1
  have qi1 : In 1 20 i1 := by rw [← ei1]; exact (In_w (In_add h_x4 (by decide : In 1 1 (1 : Int32)) (by decide) (by decide)) (by decide) (by decide) : In 1 20 (x4 + (1 : Int32)))
  exact hk36 S x0 x1 i1 (Rlweak g (by decide +kernel) (by decide) (by decide)) h_x0 (In_w h_x1 (by decide) (by decide)) (In_w qi1 (by decide) (by decide))  (by rw [← ei1, toInt_add1 h_x4 (by decide) (by decide)]; omega)
theorem t_M_recover_B75_2c0_4c0_k_2c0_3c0 {T : Nat → Nat} {S0 S : AS} (g : Rl T [] S0 0 0 T S) {x0 : Option Nat} {x1 : Int32} {x4 : Int32} {k36 : AS → Option Nat → Int32 → Int32 → Int32 → Int32 → Option (Int32 × AS)} {n36 : Nat} (hk36 : ∀ (S' : AS) (z0 : Option Nat) (z1 : Int32) (z4 : Int32), Rl T [] S0 0 0 T S' → Tx T 100 z0 → In 0 20 z4 → (20 + 1 : Int) ≤ z4.toInt + (n36 : Int) → Ho (k36 S' z0 z1 (0 : Int32) (0 : Int32) z4) (fun q => Rl T kw_M99 S0 0 0 T q.2 ∧ In 0 19 q.1)) (hm36 : (20 + 1 : Int) ≤ x4.toInt + ((n36 + 1 : Nat) : Int)) (h_x0 : Tx T 100 x0) (h_x4 : In 0 19 x4) (hx_57_70 : In 1 20 (sI S 57 70)) : Ho (f_M_recover_B75 k36 S x0 x1 (0 : Int32) x4 (0 : Int32)) (fun q => Rl T kw_M99 S0 0 0 T q.2 ∧ In 0 19 q.1) := by
  unfold f_M_recover_B75
  refine r_val ?_
  generalize ei1 : (x4 + (1 : Int32)) = i1
  have qi1 : In 1 20 i1 := by rw [← ei1]; exact (In_w (In_add h_x4 (by decide : In 1 1 (1 : Int32)) (by decide) (by decide)) (by decide) (by decide) : In 1 20 (x4 + (1 : Int32)))
  exact hk36 S x0 x1 i1 (Rlweak g (by decide +kernel) (by decide) (by decide)) h_x0 (In_w qi1 (by decide) (by decide))  (by rw [← ei1, toInt_add1 h_x4 (by decide) (by decide)]; omega)
theorem t_M_recover_B70_2c1_k_2c1_3c1 {T : Nat → Nat} {S0 S : AS} (g : Rl T [] S0 0 0 T S) {x0 : Option Nat} {x1 : Int32} {x4 : Int32} {k36 : AS → Option Nat → Int32 → Int32 → Int32 → Int32 → Option (Int32 × AS)} {n36 : Nat} (hk36 : ∀ (S' : AS) (z0 : Option Nat) (z1 : Int32) (z3 : Int32) (z4 : Int32), Rl T [] S0 0 0 T S' → Tx T 100 z0 → In 0 5 z1 → In 0 1 z3 → In 0 19 z4 → In 0 19 (sI S' 57 70) → (19 + 1 : Int) ≤ z4.toInt + (n36 : Int) → Ho (k36 S' z0 z1 (1 : Int32) z3 z4) (fun q => Rl T kw_M99 S0 0 0 T q.2 ∧ In 0 19 q.1)) (hm36 : (19 + 1 : Int) ≤ x4.toInt + ((n36 + 1 : Nat) : Int)) (h_x0 : Tx T 100 x0) (h_x1 : In 0 5 x1) (h_x4 : In 0 18 x4) (hx_57_70 : In 1 19 (sI S 57 70)) : Ho (f_M_recover_B70 k36 S x0 x1 (1 : Int32) x4) (fun q => Rl T kw_M99 S0 0 0 T q.2 ∧ In 0 19 q.1) := by
  unfold f_M_recover_B70
  exact t_M_recover_B75_2c1_4c1_k_2c1_3c1 (Rlweak g (by decide +kernel) (by decide) (by decide)) hk36 hm36 h_x0 (In_w h_x1 (by decide) (by decide)) (In_w h_x4 (by decide) (by decide)) (In_w hx_57_70 (by decide) (by decide)) 
theorem t_M_recover_B74_2c1_k_2c1_3c1 {T : Nat → Nat} {S0 S : AS} (g : Rl T [] S0 0 0 T S) {x0 : Option Nat} {x1 : Int32} {x4 : Int32} {k36 : AS → Option Nat → Int32 → Int32 → Int32 → Int32 → Option (Int32 × AS)} {n36 : Nat} (hk36 : ∀ (S' : AS) (z0 : Option Nat) (z1 : Int32) (z3 : Int32) (z4 : Int32), Rl T [] S0 0 0 T S' → Tx T 100 z0 → In 0 5 z1 → In 0 1 z3 → In 0 19 z4 → In 0 19 (sI S' 57 70) → (19 + 1 : Int) ≤ z4.toInt + (n36 : Int) → Ho (k36 S' z0 z1 (1 : Int32) z3 z4) (fun q => Rl T kw_M99 S0 0 0 T q.2 ∧ In 0 19 q.1)) (hm36 : (19 + 1 : Int) ≤ x4.toInt + ((n36 + 1 : Nat) : Int)) (h_x0 : Tx T 100 x0) (h_x1 : In 0 5 x1) (h_x4 : In 0 18 x4) (hx_57_70 : In 1 19 (sI S 57 70)) : Ho (f_M_recover_B74 k36 S x0 x1 (1 : Int32) x4) (fun q => Rl T kw_M99 S0 0 0 T q.2 ∧ In 0 19 q.1) := by
  unfold f_M_recover_B74
  exact t_M_recover_B75_2c1_4c0_k_2c1_3c1 (Rlweak g (by decide +kernel) (by decide) (by decide)) hk36 hm36 h_x0 (In_w h_x1 (by decide) (by decide)) (In_w h_x4 (by decide) (by decide)) (In_w hx_57_70 (by decide) (by decide)) 
theorem t_M_recover_B74_2c1_k_2c1_3c0 {T : Nat → Nat} {S0 S : AS} (g : Rl T [] S0 0 0 T S) {x0 : Option Nat} {x1 : Int32} {x4 : Int32} {k36 : AS → Option Nat → Int32 → Int32 → Int32 → Int32 → Option (Int32 × AS)} {n36 : Nat} (hk36 : ∀ (S' : AS) (z0 : Option Nat) (z1 : Int32) (z4 : Int32), Rl T [] S0 0 0 T S' → Tx T 100 z0 → In 0 5 z1 → In 0 20 z4 → (20 + 1 : Int) ≤ z4.toInt + (n36 : Int) → Ho (k36 S' z0 z1 (1 : Int32) (0 : Int32) z4) (fun q => Rl T kw_M99 S0 0 0 T q.2 ∧ In 0 19 q.1)) (hm36 : (20 + 1 : Int) ≤ x4.toInt + ((n36 + 1 : Nat) : Int)) (h_x0 : Tx T 100 x0) (h_x1 : In 0 5 x1) (h_x4 : In 0 19 x4) (hx_57_70 : In 1 20 (sI S 57 70)) : Ho (f_M_recover_B74 k36 S x0 x1 (1 : Int32) x4) (fun q => Rl T kw_M99 S0 0 0 T q.2 ∧ In 0 19 q.1) := by
  unfold f_M_recover_B74
  exact t_M_recover_B75_2c1_4c0_k_2c1_3c0 (Rlweak g (by decide +kernel) (by decide) (by decide)) hk36 hm36 h_x0 (In_w h_x1 (by decide) (by decide)) (In_w h_x4 (by decide) (by decide)) (In_w hx_57_70 (by decide) (by decide)) 
theorem t_M_recover_B74_2c0_k_2c0_3c0 {T : Nat → Nat} {S0 S : AS} (g : Rl T [] S0 0 0 T S) {x0 : Option Nat} {x1 : Int32} {x4 : Int32} {k36 : AS → Option Nat → Int32 → Int32 → Int32 → Int32 → Option (Int32 × AS)} {n36 : Nat} (hk36 : ∀ (S' : AS) (z0 : Option Nat) (z1 : Int32) (z4 : Int32), Rl T [] S0 0 0 T S' → Tx T 100 z0 → In 0 20 z4 → (20 + 1 : Int) ≤ z4.toInt + (n36 : Int) → Ho (k36 S' z0 z1 (0 : Int32) (0 : Int32) z4) (fun q => Rl T kw_M99 S0 0 0 T q.2 ∧ In 0 19 q.1)) (hm36 : (20 + 1 : Int) ≤ x4.toInt + ((n36 + 1 : Nat) : Int)) (h_x0 : Tx T 100 x0) (h_x4 : In 0 19 x4) (hx_57_70 : In 1 20 (sI S 57 70)) : Ho (f_M_recover_B74 k36 S x0 x1 (0 : Int32) x4) (fun q => Rl T kw_M99 S0 0 0 T q.2 ∧ In 0 19 q.1) := by
  unfold f_M_recover_B74
  exact t_M_recover_B75_2c0_4c0_k_2c0_3c0 (Rlweak g (by decide +kernel) (by decide) (by decide)) hk36 hm36 h_x0 (In_w h_x4 (by decide) (by decide)) (In_w hx_57_70 (by decide) (by decide)) 
theorem t_M_recover_C36_2c1_3c1 {T : Nat → Nat} {S0 S : AS} (g : Rl T [] S0 0 0 T S) {x0 : Option Nat} {x1 : Int32} {x3 : Int32} {x4 : Int32} {k36 : AS → Option Nat → Int32 → Int32 → Int32 → Int32 → Option (Int32 × AS)} {n36 : Nat} (hk36 : ∀ (S' : AS) (z0 : Option Nat) (z1 : Int32) (z3 : Int32) (z4 : Int32), Rl T [] S0 0 0 T S' → Tx T 100 z0 → In 0 5 z1 → In 0 1 z3 → In 0 19 z4 → In 0 19 (sI S' 57 70) → (19 + 1 : Int) ≤ z4.toInt + (n36 : Int) → Ho (k36 S' z0 z1 (1 : Int32) z3 z4) (fun q => Rl T kw_M99 S0 0 0 T q.2 ∧ In 0 19 q.1)) (hm36 : (19 + 1 : Int) ≤ x4.toInt + ((n36 + 1 : Nat) : Int)) (h_x0 : Tx T 100 x0) (h_x1 : In 0 5 x1) (h_x3 : In 0 1 x3) (h_x4 : In 0 19 x4) (hx_57_70 : In 0 19 (sI S 57 70)) : Ho (f_M_recover_C36 k36 S x0 x1 (1 : Int32) x3 x4) (fun q => Rl T kw_M99 S0 0 0 T q.2 ∧ In 0 19 q.1) := by
  unfold f_M_recover_C36
  refine r_gIs g.1 h_x0 rfl (p := 57) rfl (fun v2 b1 e2 => ?_)
  have q3 : In 0 20 v2 := b1 _ _ rfl
  have q4 : In 0 19 v2 := In_w (In_read e2 hx_57_70) (by decide) (by decide)
  refine r_if (fun c5 => ?_) (fun c5 => ?_)
  · refine r_rv g.1 h_x0 rfl ?_
    refine r_mayBoth (w' := kw_M4) g h_x0 (by decide +kernel) (fun s6 g7 g7e c8 c9 => ?_) (fun s6 g7 g7e => ?_)
    · have q10 : In 1 1 x3 := In_w (In_neL c9 h_x3 (by decide)) (by decide) (by decide)
      have f11 : In 0 19 (sI s6 57 70) := by rw [g7e 57 70 (by omega)]; exact (In_cell e2 q4)
      refine r_ifF (by decide) ?_
      refine r_gR g7.1 h_x0 rfl rfl (fun v6 h12 => ?_)
      refine r_gIs g7.1 h_x0 rfl (p := 57) rfl (fun v7 b13 e14 => ?_)
      have q15 : In 0 20 v7 := b13 _ _ rfl
      have q16 : In 0 19 v7 := In_w (In_read e14 f11) (by decide) (by decide)
      refine r_bIs (w' := kw_M96) g7 h12 rfl (p := 117) rfl rfl (In_w q16 (by decide) (by decide) : In 0 19 v7) (by decide) (fun _ _ _ q => by cases q; exact (In_w h_x1 (by decide) (by decide))) (fun _ => rfl) (by decide) (by decide +kernel) (fun _ => by unfold phc; omega) (fun s17 g18 e19 => ?_)
      have f20 : In 0 19 (sI s17 57 70) := In_ne e19 (by omega) (In_cell e14 q16)
      have f21 : In 0 5 (sI s17 117 v7.toNatClampNeg) := In_eqw e19 (In_w h_x1 (by decide) (by decide))
      refine r_gR g18.1 h_x0 rfl rfl (fun v9 h22 => ?_)
      refine r_gIs g18.1 h_x0 rfl (p := 57) rfl (fun v10 b23 e24 => ?_)
      have q25 : In 0 20 v10 := b23 _ _ rfl
      have q26 : In 0 19 v10 := In_w (In_read e24 f20) (by decide) (by decide)
      refine r_gIs g18.1 h_x0 rfl (p := 57) rfl (fun v11 b27 e28 => ?_)
      refine r_bIs (w' := kw_M97) g18 h22 rfl (p := 118) rfl rfl (In_w q26 (by decide) (by decide) : In 0 19 v10) (by decide) (fun _ _ _ q => by cases q) (fun _ => rfl) (by decide) (by decide +kernel) (fun _ => by unfold phc; omega) (fun s29 g30 e31 => ?_)
      have f32 : In 0 19 (sI s29 57 70) := In_ne e31 (by omega) (In_cell e24 q26)
      have f33 : In 0 5 (sI s29 117 v7.toNatClampNeg) := In_ne e31 (by omega) f21
      refine r_gR g30.1 h_x0 rfl rfl (fun v13 h34 => ?_)
      refine r_gIs g30.1 h_x0 rfl (p := 57) rfl (fun v14 b35 e36 => ?_)
      have q37 : In 0 20 v14 := b35 _ _ rfl
      have q38 : In 0 19 v14 := In_w (In_read e36 f32) (by decide) (by decide)
      refine r_bZs (w' := kw_M98) g30 h34 rfl (p := 119) rfl rfl (In_w q38 (by decide) (by decide) : In 0 19 v14) (by decide) (In_w (by decide : In 1 1 (1 : Int32)) (by decide) (by decide)) (fun _ _ _ q => by cases q; exact (In_w (by decide : In 1 1 (1 : Int32)) (by decide) (by decide))) (fun _ => rfl) (by decide) (by decide +kernel) (fun _ => by unfold phc; omega) (fun s39 g40 e41 => ?_)
      have f42 : In 0 19 (sI s39 57 70) := In_ne e41 (by omega) (In_cell e36 q38)
      have f43 : In 0 5 (sI s39 117 v7.toNatClampNeg) := In_ne e41 (by omega) f33
      have f44 : In 1 1 (sI s39 119 v14.toNatClampNeg) := In_eqw e41 (In_w (by decide : In 1 1 (1 : Int32)) (by decide) (by decide))
      refine r_gIs g40.1 h_x0 rfl (p := 57) rfl (fun v16 b45 e46 => ?_)
      have q47 : In 0 20 v16 := b45 _ _ rfl
      have q48 : In 0 19 v16 := In_w (In_read e46 f42) (by decide) (by decide)
      refine r_pIs (w' := kw_M99) g40 h_x0 (fun _ _ q => by cases q; exact (In_w (In_w (In_add q48 (by decide : In 1 1 (1 : Int32)) (by decide) (by decide)) (by decide) (by decide) : In 1 20 (v16 + (1 : Int32))) (by decide) (by decide))) (by decide +kernel) (by unfold phc; decide) (fun s49 g50 e51 => ?_)
      have f52 : In 0 5 (sI s49 117 v7.toNatClampNeg) := In_ne e51 (by omega) f43
      have f53 : In 1 1 (sI s49 119 v14.toNatClampNeg) := In_ne e51 (by omega) f44
      have f54 : In 1 20 (sI s49 57 70) := In_eqw e51 (In_w (In_w (In_add q48 (by decide : In 1 1 (1 : Int32)) (by decide) (by decide)) (by decide) (by decide) : In 1 20 (v16 + (1 : Int32))) (by decide) (by decide))
      refine r_gIs g50.1 h_x0 rfl (p := 57) rfl (fun v18 b55 e56 => ?_)
      have q57 : In 0 20 v18 := b55 _ _ rfl
      have q58 : In 1 20 v18 := In_w (In_read e56 f54) (by decide) (by decide)
      exact r_some ⟨(Rlweak g50 (by decide +kernel) (by decide) (by decide)), (In_w (In_w (In_sub q58 (by decide : In 1 1 (1 : Int32)) (by decide) (by decide)) (by decide) (by decide) : In 0 19 (v18 - (1 : Int32))) (by decide) (by decide))⟩
    · have f59 : In 0 19 (sI s6 57 70) := by rw [g7e 57 70 (by omega)]; exact (In_cell e2 q4)
      refine r_ifT (by decide) ?_
      exact r_some ⟨(Rlweak g7 (by decide +kernel) (by decide) (by decide)), (In_w (by decide : In 0 0 (0 : Int32)) (by decide) (by decide))⟩
  · have q60 : In 0 18 x4 := In_w (In_lt1 (Int32.not_le.mp c5) h_x4 q4) (by decide) (by decide)
    have q61 : In 1 19 v2 := In_w (In_lt2 (Int32.not_le.mp c5) h_x4 q4) (by decide) (by decide)
    refine r_if (fun c62 => ?_) (fun c62 => ?_)
    · have q63 : In 0 0 x3 := In_w (In_eq c62 (by decide : In 0 0 (0 : Int32))) (by decide) (by decide)
      exact t_M_recover_B74_2c1_k_2c1_3c1 (Rlweak g (by decide +kernel) (by decide) (by decide)) hk36 hm36 h_x0 (In_w h_x1 (by decide) (by decide)) (In_w q60 (by decide) (by decide)) (In_w (In_cell e2 q61) (by decide) (by decide)) 
    · have q64 : In 1 1 x3 := In_w (In_neL c62 h_x3 (by decide)) (by decide) (by decide)
      refine r_gR g.1 h_x0 rfl rfl (fun v19 h65 => ?_)
      refine r_aIs g.1 h65 rfl (p := 119) rfl rfl (In_w q60 (by decide) (by decide) : In 0 18 x4) (by decide) (fun v20 b66 e67 => ?_)
      have q68 : In 0 1 v20 := b66 _ _ rfl
      refine r_if (fun c69 => ?_) (fun c69 => ?_)
      · have q70 : In 0 0 v20 := In_w (In_eq c69 (by decide : In 0 0 (0 : Int32))) (by decide) (by decide)
        exact t_M_recover_B70_2c1_k_2c1_3c1 (Rlweak g (by decide +kernel) (by decide) (by decide)) hk36 hm36 h_x0 (In_w h_x1 (by decide) (by decide)) (In_w q60 (by decide) (by decide)) (In_w (In_cell e2 q61) (by decide) (by decide)) 
      · have q71 : In 1 1 v20 := In_w (In_neL c69 q68 (by decide)) (by decide) (by decide)
        refine r_gR g.1 h_x0 rfl rfl (fun v21 h72 => ?_)
        refine r_aIs g.1 h72 rfl (p := 117) rfl rfl (In_w q60 (by decide) (by decide) : In 0 18 x4) (by decide) (fun v22 b73 e74 => ?_)
        have q75 : In 0 5 v22 := b73 _ _ rfl
        refine r_if (fun c76 => ?_) (fun c76 => ?_)
        · exact t_M_recover_B74_2c1_k_2c1_3c1 (Rlweak g (by decide +kernel) (by decide) (by decide)) hk36 hm36 h_x0 (In_w h_x1 (by decide) (by decide)) (In_w q60 (by decide) (by decide)) (In_w (In_cell e2 q61) (by decide) (by decide))
        · exact t_M_recover_B70_2c1_k_2c1_3c1 (Rlweak g (by decide +kernel) (by decide) (by decide)) hk36 hm36 h_x0 (In_w h_x1 (by decide) (by decide)) (In_w q60 (by decide) (by decide)) (In_w (In_cell e2 q61) (by decide) (by decide))
theorem t_M_recover_L36_2c1_3c1 {T : Nat → Nat} {S0 : AS} : ∀ (n : Nat) (S : AS) (x0 : Option Nat) (x1 : Int32) (x3 : Int32) (x4 : Int32), Rl T [] S0 0 0 T S → Tx T 100 x0 → In 0 5 x1 → In 0 1 x3 → In 0 19 x4 → In 0 19 (sI S 57 70) → (19 + 1 : Int) ≤ x4.toInt + (n : Int) → Ho (f_M_recover_L36  n S x0 x1 (1 : Int32) x3 x4) (fun q => Rl T kw_M99 S0 0 0 T q.2 ∧ In 0 19 q.1) := by
  intro n
  induction n with
  | zero =>
    intro S x0 x1 x3 x4 g h_x0 h_x1 h_x3 h_x4 hx_57_70 hm
    exact absurd hm (by have := h_x4.2; omega)
  | succ n ih =>
    intro S x0 x1 x3 x4 g h_x0 h_x1 h_x3 h_x4 hx_57_70 hm
    exact t_M_recover_C36_2c1_3c1 g  (fun S' z0 z1 z2 z3 g' a_h_x0 a_h_x1 a_h_x3 a_h_x4 a_hx_57_70 am => ih S' z0 z1 z2 z3 g' a_h_x0 a_h_x1 a_h_x3 a_h_x4 a_hx_57_70 am) hm h_x0 h_x1 h_x3 h_x4 hx_57_70 
theorem t_M_recover_C36_2c1_3c0 {T : Nat → Nat} {S0 S : AS} (g : Rl T [] S0 0 0 T S) {x0 : Option Nat} {x1 : Int32} {x4 : Int32} {k36 : AS → Option Nat → Int32 → Int32 → Int32 → Int32 → Option (Int32 × AS)} {n36 : Nat} (hk36 : ∀ (S' : AS) (z0 : Option Nat) (z1 : Int32) (z4 : Int32), Rl T [] S0 0 0 T S' → Tx T 100 z0 → In 0 5 z1 → In 0 20 z4 → (20 + 1 : Int) ≤ z4.toInt + (n36 : Int) → Ho (k36 S' z0 z1 (1 : Int32) (0 : Int32) z4) (fun q => Rl T kw_M99 S0 0 0 T q.2 ∧ In 0 19 q.1)) (hm36 : (20 + 1 : Int) ≤ x4.toInt + ((n36 + 1 : Nat) : Int)) (h_x0 : Tx T 100 x0) (h_x1 : In 0 5 x1) (h_x4 : In 0 20 x4) : Ho (f_M_recover_C36 k36 S x0 x1 (1 : Int32) (0 : Int32) x4) (fun q => Rl T kw_M99 S0 0 0 T q.2 ∧ In 0 19 q.1) := by
  unfold f_M_recover_C36
  refine r_gIs g.1 h_x0 rfl (p := 57) rfl (fun v2 b1 e2 => ?_)
  have q3 : In 0 20 v2 := b1 _ _ rfl
  refine r_if (fun c4 => ?_) (fun c4 => ?_)
  · refine r_rv g.1 h_x0 rfl ?_
    refine r_mayBoth (w' := kw_M4) g h_x0 (by decide +kernel) (fun s5 g6 g6e c7 c8 => ?_) (fun s5 g6 g6e => ?_)
    · exact absurd rfl c8
    · refine r_ifT (by decide) ?_
      exact r_some ⟨(Rlweak g6 (by decide +kernel) (by decide) (by decide)), (In_w (by decide : In 0 0 (0 : Int32)) (by decide) (by decide))⟩
  · have q9 : In 0 19 x4 := In_w (In_lt1 (Int32.not_le.mp c4) h_x4 q3) (by decide) (by decide)
    have q10 : In 1 20 v2 := In_w (In_lt2 (Int32.not_le.mp c4) h_x4 q3) (by decide) (by decide)
    refine r_ifT (by decide) ?_
    exact t_M_recover_B74_2c1_k_2c1_3c0 (Rlweak g (by decide +kernel) (by decide) (by decide)) hk36 hm36 h_x0 (In_w h_x1 (by decide) (by decide)) (In_w q9 (by decide) (by decide)) (In_w (In_cell e2 q10) (by decide) (by decide)) 
theorem t_M_recover_L36_2c1_3c0 {T : Nat → Nat} {S0 : AS} : ∀ (n : Nat) (S : AS) (x0 : Option Nat) (x1 : Int32) (x4 : Int32), Rl T [] S0 0 0 T S → Tx T 100 x0 → In 0 5 x1 → In 0 20 x4 → (20 + 1 : Int) ≤ x4.toInt + (n : Int) → Ho (f_M_recover_L36  n S x0 x1 (1 : Int32) (0 : Int32) x4) (fun q => Rl T kw_M99 S0 0 0 T q.2 ∧ In 0 19 q.1) := by
  intro n
  induction n with
  | zero =>
    intro S x0 x1 x4 g h_x0 h_x1 h_x4 hm
    exact absurd hm (by have := h_x4.2; omega)
  | succ n ih =>
    intro S x0 x1 x4 g h_x0 h_x1 h_x4 hm
    exact t_M_recover_C36_2c1_3c0 g  (fun S' z0 z1 z2 g' a_h_x0 a_h_x1 a_h_x4 am => ih S' z0 z1 z2 g' a_h_x0 a_h_x1 a_h_x4 am) hm h_x0 h_x1 h_x4 
theorem t_M_recover_C36_2c0_3c0 {T : Nat → Nat} {S0 S : AS} (g : Rl T [] S0 0 0 T S) {x0 : Option Nat} {x1 : Int32} {x4 : Int32} {k36 : AS → Option Nat → Int32 → Int32 → Int32 → Int32 → Option (Int32 × AS)} {n36 : Nat} (hk36 : ∀ (S' : AS) (z0 : Option Nat) (z1 : Int32) (z4 : Int32), Rl T [] S0 0 0 T S' → Tx T 100 z0 → In 0 20 z4 → (20 + 1 : Int) ≤ z4.toInt + (n36 : Int) → Ho (k36 S' z0 z1 (0 : Int32) (0 : Int32) z4) (fun q => Rl T kw_M99 S0 0 0 T q.2 ∧ In 0 19 q.1)) (hm36 : (20 + 1 : Int) ≤ x4.toInt + ((n36 + 1 : Nat) : Int)) (h_x0 : Tx T 100 x0) (h_x4 : In 0 20 x4) : Ho (f_M_recover_C36 k36 S x0 x1 (0 : Int32) (0 : Int32) x4) (fun q => Rl T kw_M99 S0 0 0 T q.2 ∧ In 0 19 q.1) := by
  unfold f_M_recover_C36
  refine r_gIs g.1 h_x0 rfl (p := 57) rfl (fun v2 b1 e2 => ?_)
  have q3 : In 0 20 v2 := b1 _ _ rfl
  refine r_if (fun c4 => ?_) (fun c4 => ?_)
  · refine r_rv g.1 h_x0 rfl ?_
    refine r_mayBoth (w' := kw_M4) g h_x0 (by decide +kernel) (fun s5 g6 g6e c7 c8 => ?_) (fun s5 g6 g6e => ?_)
    · exact absurd rfl c7
    · refine r_ifT (by decide) ?_
      exact r_some ⟨(Rlweak g6 (by decide +kernel) (by decide) (by decide)), (In_w (by decide : In 0 0 (0 : Int32)) (by decide) (by decide))⟩
  · have q9 : In 0 19 x4 := In_w (In_lt1 (Int32.not_le.mp c4) h_x4 q3) (by decide) (by decide)
    have q10 : In 1 20 v2 := In_w (In_lt2 (Int32.not_le.mp c4) h_x4 q3) (by decide) (by decide)
    refine r_ifT (by decide) ?_
    exact t_M_recover_B74_2c0_k_2c0_3c0 (Rlweak g (by decide +kernel) (by decide) (by decide)) hk36 hm36 h_x0 (In_w q9 (by decide) (by decide)) (In_w (In_cell e2 q10) (by decide) (by decide)) 
theorem t_M_recover_L36_2c0_3c0 {T : Nat → Nat} {S0 : AS} : ∀ (n : Nat) (S : AS) (x0 : Option Nat) (x1 : Int32) (x4 : Int32), Rl T [] S0 0 0 T S → Tx T 100 x0 → In 0 20 x4 → (20 + 1 : Int) ≤ x4.toInt + (n : Int) → Ho (f_M_recover_L36  n S x0 x1 (0 : Int32) (0 : Int32) x4) (fun q => Rl T kw_M99 S0 0 0 T q.2 ∧ In 0 19 q.1) := by
  intro n
  induction n with
  | zero =>
    intro S x0 x1 x4 g h_x0 h_x4 hm
    exact absurd hm (by have := h_x4.2; omega)
  | succ n ih =>
    intro S x0 x1 x4 g h_x0 h_x4 hm
    exact t_M_recover_C36_2c0_3c0 g  (fun S' z0 z1 z2 g' a_h_x0 a_h_x4 am => ih S' z0 z1 z2 g' a_h_x0 a_h_x4 am) hm h_x0 h_x4 
theorem t_M_recover_B32_2c1_3c1 {T : Nat → Nat} {S0 S : AS} (g : Rl T [] S0 0 0 T S) {x0 : Option Nat} {x1 : Int32} (h_x0 : Tx T 100 x0) (h_x1 : In 0 5 x1) (hx_57_70 : In 0 19 (sI S 57 70)) : Ho (f_M_recover_B32  S x0 x1 (1 : Int32) (1 : Int32)) (fun q => Rl T kw_M99 S0 0 0 T q.2 ∧ In 0 19 q.1) := by
  unfold f_M_recover_B32
  exact t_M_recover_L36_2c1_3c1   kr_FU S x0 x1 (1 : Int32) (0 : Int32) (Rlweak g (by decide +kernel) (by decide) (by decide)) h_x0 (In_w h_x1 (by decide) (by decide)) (In_w (by decide : In 1 1 (1 : Int32)) (by decide) (by decide)) (In_w (by decide : In 0 0 (0 : Int32)) (by decide) (by decide)) (In_w hx_57_70 (by decide) (by decide))  (by decide)
theorem t_M_recover_B32_2c1_3c0 {T : Nat → Nat} {S0 S : AS} (g : Rl T [] S0 0 0 T S) {x0 : Option Nat} {x1 : Int32} (h_x0 : Tx T 100 x0) (h_x1 : In 0 5 x1) : Ho (f_M_recover_B32  S x0 x1 (1 : Int32) (0 : Int32)) (fun q => Rl T kw_M99 S0 0 0 T q.2 ∧ In 0 19 q.1) := by
  unfold f_M_recover_B32
  exact t_M_recover_L36_2c1_3c0   kr_FU S x0 x1 (0 : Int32) (Rlweak g (by decide +kernel) (by decide) (by decide)) h_x0 (In_w h_x1 (by decide) (by decide)) (In_w (by decide : In 0 0 (0 : Int32)) (by decide) (by decide))  (by decide)
theorem t_M_recover_B32_2c0_3c0 {T : Nat → Nat} {S0 S : AS} (g : Rl T [] S0 0 0 T S) {x0 : Option Nat} {x1 : Int32} (h_x0 : Tx T 100 x0) : Ho (f_M_recover_B32  S x0 x1 (0 : Int32) (0 : Int32)) (fun q => Rl T kw_M99 S0 0 0 T q.2 ∧ In 0 19 q.1) := by
  unfold f_M_recover_B32
  exact t_M_recover_L36_2c0_3c0   kr_FU S x0 x1 (0 : Int32) (Rlweak g (by decide +kernel) (by decide) (by decide)) h_x0 (In_w (by decide : In 0 0 (0 : Int32)) (by decide) (by decide))  (by decide)
theorem t_M_recover_B31_2c1 {T : Nat → Nat} {S0 S : AS} (g : Rl T [] S0 0 0 T S) {x0 : Option Nat} {x1 : Int32} (h_x0 : Tx T 100 x0) (h_x1 : In 0 5 x1) : Ho (f_M_recover_B31  S x0 x1 (1 : Int32)) (fun q => Rl T kw_M99 S0 0 0 T q.2 ∧ In 0 19 q.1) := by
  unfold f_M_recover_B31
  exact t_M_recover_B32_2c1_3c0 (Rlweak g (by decide +kernel) (by decide) (by decide))  h_x0 (In_w h_x1 (by decide) (by decide)) 
theorem t_M_recover_B31_2c0 {T : Nat → Nat} {S0 S : AS} (g : Rl T [] S0 0 0 T S) {x0 : Option Nat} {x1 : Int32} (h_x0 : Tx T 100 x0) : Ho (f_M_recover_B31  S x0 x1 (0 : Int32)) (fun q => Rl T kw_M99 S0 0 0 T q.2 ∧ In 0 19 q.1) := by
  unfold f_M_recover_B31
  exact t_M_recover_B32_2c0_3c0 (Rlweak g (by decide +kernel) (by decide) (by decide))  h_x0 
theorem t_M_recover {T : Nat → Nat} {S : AS} (hT : TI T S) {a0 : Option Nat} {a1 : Int32} (h_a0 : Tx T 100 a0) : Ho (f_M_recover  S a0 a1) (fun q => Rl T kw_M99 S 0 0 T q.2 ∧ In 0 19 q.1) := by
  have g0 := Rlrf hT
  unfold f_M_recover
  refine r_spl (u_isSix _ _) (fun q1 => ?_) ?_
  · have q2 : In 0 5 a1 := In_w q1 (by decide) (by decide)
    refine r_ifF (by decide) ?_
    refine r_gR g0.1 h_a0 rfl rfl (fun v25 h3 => ?_)
    refine r_aIs g0.1 h3 rfl (p := 64) rfl rfl (In_w q2 (by decide) (by decide) : In 0 5 a1) (by decide) (fun v26 b4 e5 => ?_)
    have q6 : In 0 1 v26 := b4 _ _ rfl
    refine r_if (fun c7 => ?_) (fun c7 => ?_)
    · have q8 : In 0 0 v26 := In_w (In_eq c7 (by decide : In 0 0 (0 : Int32))) (by decide) (by decide)
      refine r_gIs g0.1 h_a0 rfl (p := 57) rfl (fun v27 b9 e10 => ?_)
      have q11 : In 0 20 v27 := b9 _ _ rfl
      refine r_if (fun c12 => ?_) (fun c12 => ?_)
      · have q13 : In 20 20 v27 := In_w (In_le2 c12 (by decide : In 20 20 (20 : Int32)) q11) (by decide) (by decide)
        exact t_M_recover_B31_2c1 (Rlweak g0 (by decide +kernel) (by decide) (by decide))  h_a0 (In_w q2 (by decide) (by decide)) 
      · have q14 : In 0 19 v27 := In_w (In_lt1 (Int32.not_le.mp c12) q11 (by decide : In 20 20 (20 : Int32))) (by decide) (by decide)
        exact t_M_recover_B32_2c1_3c1 (Rlweak g0 (by decide +kernel) (by decide) (by decide))  h_a0 (In_w q2 (by decide) (by decide)) (In_w (In_cell e10 q14) (by decide) (by decide)) 
    · have q15 : In 1 1 v26 := In_w (In_neL c7 q6 (by decide)) (by decide) (by decide)
      exact t_M_recover_B31_2c1 (Rlweak g0 (by decide +kernel) (by decide) (by decide))  h_a0 (In_w q2 (by decide) (by decide)) 
  · refine r_ifT (by decide) ?_
    exact t_M_recover_B31_2c0 (Rlweak g0 (by decide +kernel) (by decide) (by decide))  h_a0 
theorem t_M_speaks {T : Nat → Nat} {S : AS} (hT : TI T S) {a0 : Option Nat} {a1 : Int32} (h_a0 : Tx T 100 a0) (h_a1 : In 0 59 a1) : Ho (f_M_speaks  S a0 a1) (fun q => q.2 = S ∧ In 0 1 q.1) := by
  unfold f_M_speaks
  refine r_gR hT h_a0 rfl rfl (fun v1 h1 => ?_)
  refine r_aIs hT h1 rfl (p := 89) rfl rfl (In_w h_a1 (by decide) (by decide) : In 0 59 a1) (by decide) (fun v2 b2 e3 => ?_)
  have q4 : In 0 1 v2 := b2 _ _ rfl
  refine r_if (fun c5 => ?_) (fun c5 => ?_)
  · have q6 : In 0 0 v2 := In_w (In_eq c5 (by decide : In 0 0 (0 : Int32))) (by decide) (by decide)
    exact r_some ⟨rfl, (In_w (by decide : In 0 0 (0 : Int32)) (by decide) (by decide))⟩
  · have q7 : In 1 1 v2 := In_w (In_neL c5 q4 (by decide)) (by decide) (by decide)
    refine r_gR hT h_a0 rfl rfl (fun v3 h8 => ?_)
    refine r_aIs hT h8 rfl (p := 88) rfl rfl (In_w h_a1 (by decide) (by decide) : In 0 59 a1) (by decide) (fun v4 b9 e10 => ?_)
    have q11 : In (-1) 59 v4 := b9 _ _ rfl
    refine r_if (fun c12 => ?_) (fun c12 => ?_)
    · have q13 : In (-1) (-1) v4 := In_w (In_eq c12 (by decide : In (-1) (-1) (-1 : Int32))) (by decide) (by decide)
      exact r_some ⟨rfl, (In_w (by decide : In 1 1 (1 : Int32)) (by decide) (by decide))⟩
    · have q14 : In 0 59 v4 := In_w (In_neL c12 q11 (by decide)) (by decide) (by decide)
      exact r_some ⟨rfl, (In_w (by decide : In 0 0 (0 : Int32)) (by decide) (by decide))⟩
theorem t_M_vouch_B104_3t100_4c1_5c1 {T : Nat → Nat} {S0 S : AS} (g : Rl T [] S0 0 0 T S) {x0 : Option Nat} {x1 : Int32} {x2 : Int32} {y0 : Option Nat} (h_x0 : Tx T 100 x0) (h_x1 : In 0 19 x1) (h_x2 : In 0 59 x2) (h_y0 : Tx T 100 y0) : Ho (f_M_vouch_B104  S x0 x1 x2 y0 (1 : Int32) (1 : Int32)) (fun q => Rl T kw_M101 S0 0 0 T q.2 ∧ True) := by
  unfold f_M_vouch_B104
  refine r_rv g.1 h_y0 rfl ?_
  refine r_mayBoth (w' := kw_M4) g h_y0 (by decide +kernel) (fun s1 g2 g2e c3 c4 => ?_) (fun s1 g2 g2e => ?_)
  · refine r_ifF (by decide) ?_
    refine r_gR g2.1 h_x0 rfl rfl (fun v4 h5 => ?_)
    refine r_aIs g2.1 h5 rfl (p := 120) rfl rfl (In_w h_x1 (by decide) (by decide) : In 0 19 x1) (by decide) (fun v5 b6 e7 => ?_)
    refine r_gR g2.1 h_x0 rfl rfl (fun v6 h8 => ?_)
    refine r_aIs g2.1 h8 rfl (p := 85) rfl rfl (In_w h_x2 (by decide) (by decide) : In 0 59 x2) (by decide) (fun v7 b9 e10 => ?_)
    have q11 : In 0 5 v7 := b9 _ _ rfl
    refine r_bIs (w' := kw_M100) g2 h5 rfl (p := 120) rfl rfl (In_w h_x1 (by decide) (by decide) : In 0 19 x1) (by decide) (fun _ _ _ q => by cases q) (fun _ => rfl) (by decide) (by decide +kernel) (fun _ => by unfold phc; omega) (fun s12 g13 e14 => ?_)
    refine r_gR g13.1 h_x0 rfl rfl (fun v9 h15 => ?_)
    refine r_aIs g13.1 h15 rfl (p := 121) rfl rfl (In_w h_x1 (by decide) (by decide) : In 0 19 x1) (by decide) (fun v10 b16 e17 => ?_)
    refine r_rv g13.1 h_x0 rfl ?_
    refine r_P (P := fun v => True) (t_M_levelNow g13.1 h_x0 (In_w h_x2 (by decide) (by decide))) (fun v13 h18 => ?_)
    refine r_bIs (w' := kw_M101) g13 h15 rfl (p := 121) rfl rfl (In_w h_x1 (by decide) (by decide) : In 0 19 x1) (by decide) (fun _ _ _ q => by cases q) (fun _ => rfl) (by decide) (by decide +kernel) (fun _ => by unfold phc; omega) (fun s19 g20 e21 => ?_)
    refine r_gR g20.1 h_x0 rfl rfl (fun v15 h22 => ?_)
    refine r_aIs g20.1 h22 rfl (p := 121) rfl rfl (In_w h_x1 (by decide) (by decide) : In 0 19 x1) (by decide) (fun v16 b23 e24 => ?_)
    exact r_some ⟨(Rlweak g20 (by decide +kernel) (by decide) (by decide)), trivial⟩
  · refine r_ifT (by decide) ?_
    exact r_some ⟨(Rlweak g2 (by decide +kernel) (by decide) (by decide)), trivial⟩
theorem t_M_vouch_B104_3t100_4c1_5c0 {T : Nat → Nat} {S0 S : AS} (g : Rl T [] S0 0 0 T S) {x0 : Option Nat} {x1 : Int32} {x2 : Int32} {y0 : Option Nat} (h_x0 : Tx T 100 x0) (h_x1 : In 0 19 x1) (h_x2 : In 0 59 x2) (h_y0 : Tx T 100 y0) : Ho (f_M_vouch_B104  S x0 x1 x2 y0 (1 : Int32) (0 : Int32)) (fun q => Rl T kw_M101 S0 0 0 T q.2 ∧ True) := by
  unfold f_M_vouch_B104
  refine r_rv g.1 h_y0 rfl ?_
  refine r_mayBoth (w' := kw_M4) g h_y0 (by decide +kernel) (fun s1 g2 g2e c3 c4 => ?_) (fun s1 g2 g2e => ?_)
  · exact absurd rfl c4
  · refine r_ifT (by decide) ?_
    exact r_some ⟨(Rlweak g2 (by decide +kernel) (by decide) (by decide)), trivial⟩
theorem t_M_vouch_B104_3t100_4c0_5c0 {T : Nat → Nat} {S0 S : AS} (g : Rl T [] S0 0 0 T S) {x0 : Option Nat} {x1 : Int32} {x2 : Int32} {y0 : Option Nat} (h_x0 : Tx T 100 x0) (h_y0 : Tx T 100 y0) : Ho (f_M_vouch_B104  S x0 x1 x2 y0 (0 : Int32) (0 : Int32)) (fun q => Rl T kw_M101 S0 0 0 T q.2 ∧ True) := by
  unfold f_M_vouch_B104
  refine r_rv g.1 h_y0 rfl ?_
  refine r_mayBoth (w' := kw_M4) g h_y0 (by decide +kernel) (fun s1 g2 g2e c3 c4 => ?_) (fun s1 g2 g2e => ?_)
  · exact absurd rfl c3
  · refine r_ifT (by decide) ?_
    exact r_some ⟨(Rlweak g2 (by decide +kernel) (by decide) (by decide)), trivial⟩
theorem t_M_vouch_B103_3t100_4c1 {T : Nat → Nat} {S0 S : AS} (g : Rl T [] S0 0 0 T S) {x0 : Option Nat} {x1 : Int32} {x2 : Int32} {y0 : Option Nat} (h_x0 : Tx T 100 x0) (h_x1 : In 0 19 x1) (h_x2 : In 0 59 x2) (h_y0 : Tx T 100 y0) : Ho (f_M_vouch_B103  S x0 x1 x2 y0 (1 : Int32)) (fun q => Rl T kw_M101 S0 0 0 T q.2 ∧ True) := by
  unfold f_M_vouch_B103
  exact t_M_vouch_B104_3t100_4c1_5c0 (Rlweak g (by decide +kernel) (by decide) (by decide))  h_x0 (In_w h_x1 (by decide) (by decide)) (In_w h_x2 (by decide) (by decide)) h_y0 
theorem t_M_vouch_B103_3t100_4c0 {T : Nat → Nat} {S0 S : AS} (g : Rl T [] S0 0 0 T S) {x0 : Option Nat} {x1 : Int32} {x2 : Int32} {y0 : Option Nat} (h_x0 : Tx T 100 x0) (h_y0 : Tx T 100 y0) : Ho (f_M_vouch_B103  S x0 x1 x2 y0 (0 : Int32)) (fun q => Rl T kw_M101 S0 0 0 T q.2 ∧ True) := by
  unfold f_M_vouch_B103
  exact t_M_vouch_B104_3t100_4c0_5c0 (Rlweak g (by decide +kernel) (by decide) (by decide))  h_x0 h_y0 
theorem t_M_vouch_B72_3c1_4c1 {T : Nat → Nat} {S0 S : AS} (g : Rl T [] S0 0 0 T S) {x0 : Option Nat} {x1 : Int32} {x2 : Int32} (h_x0 : Tx T 100 x0) (h_x1 : In 0 19 x1) (h_x2 : In 0 59 x2) : Ho (f_M_vouch_B72  S x0 x1 x2 (1 : Int32) (1 : Int32)) (fun q => Rl T kw_M101 S0 0 0 T q.2 ∧ True) := by
  unfold f_M_vouch_B72
  refine r_ifF (by decide) ?_
  refine r_gR g.1 h_x0 rfl rfl (fun v17 h1 => ?_)
  refine r_aIs g.1 h1 rfl (p := 120) rfl rfl (In_w h_x1 (by decide) (by decide) : In 0 19 x1) (by decide) (fun v18 b2 e3 => ?_)
  refine r_gR g.1 h_x0 rfl rfl (fun v19 h4 => ?_)
  refine r_aIs g.1 h4 rfl (p := 85) rfl rfl (In_w h_x2 (by decide) (by decide) : In 0 59 x2) (by decide) (fun v20 b5 e6 => ?_)
  have q7 : In 0 5 v20 := b5 _ _ rfl
  refine r_if (fun c8 => ?_) (fun c8 => ?_)
  · exact t_M_vouch_B104_3t100_4c1_5c1 (Rlweak g (by decide +kernel) (by decide) (by decide))  h_x0 (In_w h_x1 (by decide) (by decide)) (In_w h_x2 (by decide) (by decide)) h_x0
  · exact t_M_vouch_B103_3t100_4c1 (Rlweak g (by decide +kernel) (by decide) (by decide))  h_x0 (In_w h_x1 (by decide) (by decide)) (In_w h_x2 (by decide) (by decide)) h_x0
theorem t_M_vouch_B72_3c1_4c0 {T : Nat → Nat} {S0 S : AS} (g : Rl T [] S0 0 0 T S) {x0 : Option Nat} {x1 : Int32} {x2 : Int32} (h_x0 : Tx T 100 x0) (h_x1 : In 0 19 x1) (h_x2 : In 0 59 x2) : Ho (f_M_vouch_B72  S x0 x1 x2 (1 : Int32) (0 : Int32)) (fun q => Rl T kw_M101 S0 0 0 T q.2 ∧ True) := by
  unfold f_M_vouch_B72
  refine r_ifT (by decide) ?_
  exact t_M_vouch_B103_3t100_4c1 (Rlweak g (by decide +kernel) (by decide) (by decide))  h_x0 (In_w h_x1 (by decide) (by decide)) (In_w h_x2 (by decide) (by decide)) h_x0 
theorem t_M_vouch_B72_3c0_4c0 {T : Nat → Nat} {S0 S : AS} (g : Rl T [] S0 0 0 T S) {x0 : Option Nat} {x1 : Int32} {x2 : Int32} (h_x0 : Tx T 100 x0) : Ho (f_M_vouch_B72  S x0 x1 x2 (0 : Int32) (0 : Int32)) (fun q => Rl T kw_M101 S0 0 0 T q.2 ∧ True) := by
  unfold f_M_vouch_B72
  refine r_ifT (by decide) ?_
  exact t_M_vouch_B103_3t100_4c0 (Rlweak g (by decide +kernel) (by decide) (by decide))  h_x0 h_x0 
theorem t_M_vouch_B71_3c1 {T : Nat → Nat} {S0 S : AS} (g : Rl T [] S0 0 0 T S) {x0 : Option Nat} {x1 : Int32} {x2 : Int32} (h_x0 : Tx T 100 x0) (h_x1 : In 0 19 x1) (h_x2 : In 0 59 x2) : Ho (f_M_vouch_B71  S x0 x1 x2 (1 : Int32)) (fun q => Rl T kw_M101 S0 0 0 T q.2 ∧ True) := by
  unfold f_M_vouch_B71
  exact t_M_vouch_B72_3c1_4c0 (Rlweak g (by decide +kernel) (by decide) (by decide))  h_x0 (In_w h_x1 (by decide) (by decide)) (In_w h_x2 (by decide) (by decide)) 
theorem t_M_vouch_B71_3c0 {T : Nat → Nat} {S0 S : AS} (g : Rl T [] S0 0 0 T S) {x0 : Option Nat} {x1 : Int32} {x2 : Int32} (h_x0 : Tx T 100 x0) : Ho (f_M_vouch_B71  S x0 x1 x2 (0 : Int32)) (fun q => Rl T kw_M101 S0 0 0 T q.2 ∧ True) := by
  unfold f_M_vouch_B71
  exact t_M_vouch_B72_3c0_4c0 (Rlweak g (by decide +kernel) (by decide) (by decide))  h_x0 
theorem t_M_vouch_B21_3c1 {T : Nat → Nat} {S0 S : AS} (g : Rl T [] S0 0 0 T S) {x0 : Option Nat} {x1 : Int32} {x2 : Int32} (h_x0 : Tx T 100 x0) (h_x1 : In 0 19 x1) (h_x2 : In 0 59 x2) : Ho (f_M_vouch_B21  S x0 x1 x2 (1 : Int32)) (fun q => Rl T kw_M101 S0 0 0 T q.2 ∧ True) := by
  unfold f_M_vouch_B21
  refine r_ifF (by decide) ?_
  refine r_gR g.1 h_x0 rfl rfl (fun v21 h1 => ?_)
  refine r_aIs g.1 h1 rfl (p := 119) rfl rfl (In_w h_x1 (by decide) (by decide) : In 0 19 x1) (by decide) (fun v22 b2 e3 => ?_)
  have q4 : In 0 1 v22 := b2 _ _ rfl
  refine r_if (fun c5 => ?_) (fun c5 => ?_)
  · have q6 : In 0 0 v22 := In_w (In_eq c5 (by decide : In 0 0 (0 : Int32))) (by decide) (by decide)
    exact t_M_vouch_B71_3c1 (Rlweak g (by decide +kernel) (by decide) (by decide))  h_x0 (In_w h_x1 (by decide) (by decide)) (In_w h_x2 (by decide) (by decide)) 
  · have q7 : In 1 1 v22 := In_w (In_neL c5 q4 (by decide)) (by decide) (by decide)
    refine r_rv g.1 h_x0 rfl ?_
    refine r_P (P := fun v => In 0 1 v) (t_M_speaks g.1 h_x0 (In_w h_x2 (by decide) (by decide))) (fun v25 h8 => ?_)
    refine r_if (fun c9 => ?_) (fun c9 => ?_)
    · have q10 : In 0 0 v25 := In_w (In_eq c9 (by decide : In 0 0 (0 : Int32))) (by decide) (by decide)
      exact t_M_vouch_B71_3c1 (Rlweak g (by decide +kernel) (by decide) (by decide))  h_x0 (In_w h_x1 (by decide) (by decide)) (In_w h_x2 (by decide) (by decide)) 
    · have q11 : In 1 1 v25 := In_w (In_neL c9 h8 (by decide)) (by decide) (by decide)
      refine r_rv g.1 h_x0 rfl ?_
      refine r_P (P := fun v => True) (t_M_levelNow g.1 h_x0 (In_w h_x2 (by decide) (by decide))) (fun v28 h12 => ?_)
      refine r_if (fun c13 => ?_) (fun c13 => ?_)
      · have q14 : In (-2147483648) 2 v28 := In_w (In_lt1 c13 (In_top v28) (by decide : In 3 3 (3 : Int32))) (by decide) (by decide)
        exact t_M_vouch_B71_3c1 (Rlweak g (by decide +kernel) (by decide) (by decide))  h_x0 (In_w h_x1 (by decide) (by decide)) (In_w h_x2 (by decide) (by decide)) 
      · have q15 : In 3 2147483647 v28 := In_w (In_le2 (Int32.not_lt.mp c13) (by decide : In 3 3 (3 : Int32)) (In_top v28)) (by decide) (by decide)
        refine r_gR g.1 h_x0 rfl rfl (fun v29 h16 => ?_)
        refine r_aIs g.1 h16 rfl (p := 85) rfl rfl (In_w h_x2 (by decide) (by decide) : In 0 59 x2) (by decide) (fun v30 b17 e18 => ?_)
        have q19 : In 0 5 v30 := b17 _ _ rfl
        refine r_gR g.1 h_x0 rfl rfl (fun v31 h20 => ?_)
        refine r_aIs g.1 h20 rfl (p := 117) rfl rfl (In_w h_x1 (by decide) (by decide) : In 0 19 x1) (by decide) (fun v32 b21 e22 => ?_)
        have q23 : In 0 5 v32 := b21 _ _ rfl
        refine r_if (fun c24 => ?_) (fun c24 => ?_)
        · exact t_M_vouch_B71_3c1 (Rlweak g (by decide +kernel) (by decide) (by decide))  h_x0 (In_w h_x1 (by decide) (by decide)) (In_w h_x2 (by decide) (by decide))
        · exact t_M_vouch_B72_3c1_4c1 (Rlweak g (by decide +kernel) (by decide) (by decide))  h_x0 (In_w h_x1 (by decide) (by decide)) (In_w h_x2 (by decide) (by decide))
theorem t_M_vouch_B21_3c0 {T : Nat → Nat} {S0 S : AS} (g : Rl T [] S0 0 0 T S) {x0 : Option Nat} {x1 : Int32} {x2 : Int32} (h_x0 : Tx T 100 x0) : Ho (f_M_vouch_B21  S x0 x1 x2 (0 : Int32)) (fun q => Rl T kw_M101 S0 0 0 T q.2 ∧ True) := by
  unfold f_M_vouch_B21
  refine r_ifT (by decide) ?_
  exact t_M_vouch_B71_3c0 (Rlweak g (by decide +kernel) (by decide) (by decide))  h_x0 
theorem t_M_vouch_B20 {T : Nat → Nat} {S0 S : AS} (g : Rl T [] S0 0 0 T S) {x0 : Option Nat} {x1 : Int32} {x2 : Int32} (h_x0 : Tx T 100 x0) : Ho (f_M_vouch_B20  S x0 x1 x2) (fun q => Rl T kw_M101 S0 0 0 T q.2 ∧ True) := by
  unfold f_M_vouch_B20
  exact t_M_vouch_B21_3c0 (Rlweak g (by decide +kernel) (by decide) (by decide))  h_x0 
theorem t_M_vouch {T : Nat → Nat} {S : AS} (hT : TI T S) {a0 : Option Nat} {a1 : Int32} {a2 : Int32} (h_a0 : Tx T 100 a0) : Ho (f_M_vouch  S a0 a1 a2) (fun q => Rl T kw_M101 S 0 0 T q.2 ∧ True) := by
  have g0 := Rlrf hT
  unfold f_M_vouch
  refine r_rv g0.1 h_a0 rfl ?_
  refine r_spl (u_isRecovery g0.1 h_a0) (fun q1 => ?_) ?_
  · have q2 : In 0 19 a1 := In_w q1.1 (by decide) (by decide)
    refine r_ifF (by decide) ?_
    refine r_rv g0.1 h_a0 rfl ?_
    refine r_spl (u_isSession g0.1 h_a0) (fun q3 => ?_) ?_
    · have q4 : In 0 59 a2 := In_w q3.1 (by decide) (by decide)
      refine r_ifF (by decide) ?_
      exact t_M_vouch_B21_3c1 (Rlweak g0 (by decide +kernel) (by decide) (by decide))  h_a0 (In_w q2 (by decide) (by decide)) (In_w q4 (by decide) (by decide)) 
    · refine r_ifT (by decide) ?_
      exact t_M_vouch_B20 (Rlweak g0 (by decide +kernel) (by decide) (by decide))  h_a0 
  · refine r_ifT (by decide) ?_
    exact t_M_vouch_B20 (Rlweak g0 (by decide +kernel) (by decide) (by decide))  h_a0 
theorem t_M_many_C4 {T : Nat → Nat} {S : AS} (hT : TI T S) {x0 : Int32} {x1 : Int32} {x2 : Int32} {k4 : AS → Int32 → Int32 → Int32 → Option (Int32 × AS)} {n4 : Nat} (hk4 : ∀ (z0 : Int32) (z1 : Int32) (z2 : Int32), In 0 6 z2 → (6 + 1 : Int) ≤ z2.toInt + (n4 : Int) → Ho (k4 S z0 z1 z2) (fun q => q.2 = S ∧ True)) (hm4 : (6 + 1 : Int) ≤ x2.toInt + ((n4 + 1 : Nat) : Int)) (h_x2 : In 0 6 x2) : Ho (f_M_many_C4 k4 S x0 x1 x2) (fun q => q.2 = S ∧ True) := by
  unfold f_M_many_C4
  refine r_if (fun c1 => ?_) (fun c1 => ?_)
  · have q2 : In 6 6 x2 := In_w (In_le2 c1 (by decide : In 6 6 (6 : Int32)) h_x2) (by decide) (by decide)
    exact r_some ⟨rfl, trivial⟩
  · have q3 : In 0 5 x2 := In_w (In_lt1 (Int32.not_le.mp c1) h_x2 (by decide : In 6 6 (6 : Int32))) (by decide) (by decide)
    refine r_val ?_
    generalize ei1 : (x1 + ((x0 >>> (x2 &&& 31)) &&& (1 : Int32))) = i1
    refine r_val ?_
    generalize ei2 : (x2 + (1 : Int32)) = i2
    have qi2 : In 1 6 i2 := by rw [← ei2]; exact (In_w (In_add q3 (by decide : In 1 1 (1 : Int32)) (by decide) (by decide)) (by decide) (by decide) : In 1 6 (x2 + (1 : Int32)))
    exact hk4  x0 i1 i2  (In_w qi2 (by decide) (by decide))  (by rw [← ei2, toInt_add1 q3 (by decide) (by decide)]; omega)
theorem t_M_many_L4 {T : Nat → Nat} {S : AS} (hT : TI T S) : ∀ (n : Nat) (x0 : Int32) (x1 : Int32) (x2 : Int32), In 0 6 x2 → (6 + 1 : Int) ≤ x2.toInt + (n : Int) → Ho (f_M_many_L4  n S x0 x1 x2) (fun q => q.2 = S ∧ True) := by
  intro n
  induction n with
  | zero =>
    intro x0 x1 x2 h_x2 hm
    exact absurd hm (by have := h_x2.2; omega)
  | succ n ih =>
    intro x0 x1 x2 h_x2 hm
    exact t_M_many_C4 hT  (fun z0 z1 z2 a_h_x2 am => ih z0 z1 z2 a_h_x2 am) hm h_x2 
theorem t_M_many {T : Nat → Nat} {S : AS} (hT : TI T S) {a0 : Int32} : Ho (f_M_many  S a0) (fun q => q.2 = S ∧ True) := by
  unfold f_M_many
  exact t_M_many_L4 hT   kr_FU  a0 (0 : Int32) (0 : Int32)  (In_w (by decide : In 0 0 (0 : Int32)) (by decide) (by decide))  (by decide)
theorem t_M_stop_B65_2t100_3c1_4c1 {T : Nat → Nat} {S0 S : AS} (g : Rl T [] S0 0 0 T S) {x0 : Option Nat} {x1 : Int32} {y0 : Option Nat} (h_x0 : Tx T 100 x0) (h_x1 : In 0 19 x1) (h_y0 : Tx T 100 y0) : Ho (f_M_stop_B65  S x0 x1 y0 (1 : Int32) (1 : Int32)) (fun q => Rl T kw_M102 S0 0 0 T q.2 ∧ True) := by
  unfold f_M_stop_B65
  refine r_rv g.1 h_y0 rfl ?_
  refine r_mayBoth (w' := kw_M4) g h_y0 (by decide +kernel) (fun s1 g2 g2e c3 c4 => ?_) (fun s1 g2 g2e => ?_)
  · refine r_ifF (by decide) ?_
    refine r_gR g2.1 h_x0 rfl rfl (fun v4 h5 => ?_)
    refine r_bZs (w' := kw_M102) g2 h5 rfl (p := 119) rfl rfl (In_w h_x1 (by decide) (by decide) : In 0 19 x1) (by decide) (In_w (by decide : In 0 0 (0 : Int32)) (by decide) (by decide)) (fun _ _ _ q => by cases q; exact (In_w (by decide : In 0 0 (0 : Int32)) (by decide) (by decide))) (fun _ => rfl) (by decide) (by decide +kernel) (fun _ => by unfold phc; omega) (fun s6 g7 e8 => ?_)
    have f9 : In 0 0 (sI s6 119 x1.toNatClampNeg) := In_eqw e8 (In_w (by decide : In 0 0 (0 : Int32)) (by decide) (by decide))
    refine r_gR g7.1 h_x0 rfl rfl (fun v6 h10 => ?_)
    refine r_aIs g7.1 h10 rfl (p := 120) rfl rfl (In_w h_x1 (by decide) (by decide) : In 0 19 x1) (by decide) (fun v7 b11 e12 => ?_)
    refine r_P (P := fun v => True) (t_M_many g7.1 ) (fun v9 h13 => ?_)
    exact r_some ⟨(Rlweak g7 (by decide +kernel) (by decide) (by decide)), trivial⟩
  · refine r_ifT (by decide) ?_
    exact r_some ⟨(Rlweak g2 (by decide +kernel) (by decide) (by decide)), trivial⟩
theorem t_M_stop_B65_2t100_3c1_4c0 {T : Nat → Nat} {S0 S : AS} (g : Rl T [] S0 0 0 T S) {x0 : Option Nat} {x1 : Int32} {y0 : Option Nat} (h_x0 : Tx T 100 x0) (h_x1 : In 0 19 x1) (h_y0 : Tx T 100 y0) : Ho (f_M_stop_B65  S x0 x1 y0 (1 : Int32) (0 : Int32)) (fun q => Rl T kw_M102 S0 0 0 T q.2 ∧ True) := by
  unfold f_M_stop_B65
  refine r_rv g.1 h_y0 rfl ?_
  refine r_mayBoth (w' := kw_M4) g h_y0 (by decide +kernel) (fun s1 g2 g2e c3 c4 => ?_) (fun s1 g2 g2e => ?_)
  · exact absurd rfl c4
  · refine r_ifT (by decide) ?_
    exact r_some ⟨(Rlweak g2 (by decide +kernel) (by decide) (by decide)), trivial⟩
theorem t_M_stop_B65_2t100_3c0_4c0 {T : Nat → Nat} {S0 S : AS} (g : Rl T [] S0 0 0 T S) {x0 : Option Nat} {x1 : Int32} {y0 : Option Nat} (h_x0 : Tx T 100 x0) (h_y0 : Tx T 100 y0) : Ho (f_M_stop_B65  S x0 x1 y0 (0 : Int32) (0 : Int32)) (fun q => Rl T kw_M102 S0 0 0 T q.2 ∧ True) := by
  unfold f_M_stop_B65
  refine r_rv g.1 h_y0 rfl ?_
  refine r_mayBoth (w' := kw_M4) g h_y0 (by decide +kernel) (fun s1 g2 g2e c3 c4 => ?_) (fun s1 g2 g2e => ?_)
  · exact absurd rfl c3
  · refine r_ifT (by decide) ?_
    exact r_some ⟨(Rlweak g2 (by decide +kernel) (by decide) (by decide)), trivial⟩
theorem t_M_stop_B64_2t100_3c1 {T : Nat → Nat} {S0 S : AS} (g : Rl T [] S0 0 0 T S) {x0 : Option Nat} {x1 : Int32} {y0 : Option Nat} (h_x0 : Tx T 100 x0) (h_x1 : In 0 19 x1) (h_y0 : Tx T 100 y0) : Ho (f_M_stop_B64  S x0 x1 y0 (1 : Int32)) (fun q => Rl T kw_M102 S0 0 0 T q.2 ∧ True) := by
  unfold f_M_stop_B64
  exact t_M_stop_B65_2t100_3c1_4c0 (Rlweak g (by decide +kernel) (by decide) (by decide))  h_x0 (In_w h_x1 (by decide) (by decide)) h_y0 
theorem t_M_stop_B64_2t100_3c0 {T : Nat → Nat} {S0 S : AS} (g : Rl T [] S0 0 0 T S) {x0 : Option Nat} {x1 : Int32} {y0 : Option Nat} (h_x0 : Tx T 100 x0) (h_y0 : Tx T 100 y0) : Ho (f_M_stop_B64  S x0 x1 y0 (0 : Int32)) (fun q => Rl T kw_M102 S0 0 0 T q.2 ∧ True) := by
  unfold f_M_stop_B64
  exact t_M_stop_B65_2t100_3c0_4c0 (Rlweak g (by decide +kernel) (by decide) (by decide))  h_x0 h_y0 
theorem t_M_stop_B21_3c1 {T : Nat → Nat} {S0 S : AS} (g : Rl T [] S0 0 0 T S) {x0 : Option Nat} {x1 : Int32} {x2 : Int32} (h_x0 : Tx T 100 x0) (h_x1 : In 0 19 x1) (h_x2 : In 0 59 x2) : Ho (f_M_stop_B21  S x0 x1 x2 (1 : Int32)) (fun q => Rl T kw_M102 S0 0 0 T q.2 ∧ True) := by
  unfold f_M_stop_B21
  refine r_ifF (by decide) ?_
  refine r_gR g.1 h_x0 rfl rfl (fun v10 h1 => ?_)
  refine r_aIs g.1 h1 rfl (p := 119) rfl rfl (In_w h_x1 (by decide) (by decide) : In 0 19 x1) (by decide) (fun v11 b2 e3 => ?_)
  have q4 : In 0 1 v11 := b2 _ _ rfl
  refine r_if (fun c5 => ?_) (fun c5 => ?_)
  · have q6 : In 0 0 v11 := In_w (In_eq c5 (by decide : In 0 0 (0 : Int32))) (by decide) (by decide)
    exact t_M_stop_B64_2t100_3c1 (Rlweak g (by decide +kernel) (by decide) (by decide))  h_x0 (In_w h_x1 (by decide) (by decide)) h_x0 
  · have q7 : In 1 1 v11 := In_w (In_neL c5 q4 (by decide)) (by decide) (by decide)
    refine r_rv g.1 h_x0 rfl ?_
    refine r_P (P := fun v => In 0 1 v) (t_M_speaks g.1 h_x0 (In_w h_x2 (by decide) (by decide))) (fun v14 h8 => ?_)
    refine r_if (fun c9 => ?_) (fun c9 => ?_)
    · have q10 : In 0 0 v14 := In_w (In_eq c9 (by decide : In 0 0 (0 : Int32))) (by decide) (by decide)
      exact t_M_stop_B64_2t100_3c1 (Rlweak g (by decide +kernel) (by decide) (by decide))  h_x0 (In_w h_x1 (by decide) (by decide)) h_x0 
    · have q11 : In 1 1 v14 := In_w (In_neL c9 h8 (by decide)) (by decide) (by decide)
      refine r_gR g.1 h_x0 rfl rfl (fun v15 h12 => ?_)
      refine r_aIs g.1 h12 rfl (p := 85) rfl rfl (In_w h_x2 (by decide) (by decide) : In 0 59 x2) (by decide) (fun v16 b13 e14 => ?_)
      have q15 : In 0 5 v16 := b13 _ _ rfl
      refine r_gR g.1 h_x0 rfl rfl (fun v17 h16 => ?_)
      refine r_aIs g.1 h16 rfl (p := 117) rfl rfl (In_w h_x1 (by decide) (by decide) : In 0 19 x1) (by decide) (fun v18 b17 e18 => ?_)
      have q19 : In 0 5 v18 := b17 _ _ rfl
      refine r_if (fun c20 => ?_) (fun c20 => ?_)
      · exact t_M_stop_B65_2t100_3c1_4c1 (Rlweak g (by decide +kernel) (by decide) (by decide))  h_x0 (In_w h_x1 (by decide) (by decide)) h_x0
      · exact t_M_stop_B64_2t100_3c1 (Rlweak g (by decide +kernel) (by decide) (by decide))  h_x0 (In_w h_x1 (by decide) (by decide)) h_x0
theorem t_M_stop_B21_3c0 {T : Nat → Nat} {S0 S : AS} (g : Rl T [] S0 0 0 T S) {x0 : Option Nat} {x1 : Int32} {x2 : Int32} (h_x0 : Tx T 100 x0) : Ho (f_M_stop_B21  S x0 x1 x2 (0 : Int32)) (fun q => Rl T kw_M102 S0 0 0 T q.2 ∧ True) := by
  unfold f_M_stop_B21
  refine r_ifT (by decide) ?_
  exact t_M_stop_B64_2t100_3c0 (Rlweak g (by decide +kernel) (by decide) (by decide))  h_x0 h_x0 
theorem t_M_stop_B20 {T : Nat → Nat} {S0 S : AS} (g : Rl T [] S0 0 0 T S) {x0 : Option Nat} {x1 : Int32} {x2 : Int32} (h_x0 : Tx T 100 x0) : Ho (f_M_stop_B20  S x0 x1 x2) (fun q => Rl T kw_M102 S0 0 0 T q.2 ∧ True) := by
  unfold f_M_stop_B20
  exact t_M_stop_B21_3c0 (Rlweak g (by decide +kernel) (by decide) (by decide))  h_x0 
theorem t_M_stop {T : Nat → Nat} {S : AS} (hT : TI T S) {a0 : Option Nat} {a1 : Int32} {a2 : Int32} (h_a0 : Tx T 100 a0) : Ho (f_M_stop  S a0 a1 a2) (fun q => Rl T kw_M102 S 0 0 T q.2 ∧ True) := by
  have g0 := Rlrf hT
  unfold f_M_stop
  refine r_rv g0.1 h_a0 rfl ?_
  refine r_spl (u_isRecovery g0.1 h_a0) (fun q1 => ?_) ?_
  · have q2 : In 0 19 a1 := In_w q1.1 (by decide) (by decide)
    refine r_ifF (by decide) ?_
    refine r_rv g0.1 h_a0 rfl ?_
    refine r_spl (u_isSession g0.1 h_a0) (fun q3 => ?_) ?_
    · have q4 : In 0 59 a2 := In_w q3.1 (by decide) (by decide)
      refine r_ifF (by decide) ?_
      exact t_M_stop_B21_3c1 (Rlweak g0 (by decide +kernel) (by decide) (by decide))  h_a0 (In_w q2 (by decide) (by decide)) (In_w q4 (by decide) (by decide)) 
    · refine r_ifT (by decide) ?_
      exact t_M_stop_B20 (Rlweak g0 (by decide +kernel) (by decide) (by decide))  h_a0 
  · refine r_ifT (by decide) ?_
    exact t_M_stop_B20 (Rlweak g0 (by decide +kernel) (by decide) (by decide))  h_a0 
theorem t_M_weight {T : Nat → Nat} {S : AS} (hT : TI T S) {a0 : Int32} : Ho (f_M_weight  S a0) (fun q => q.2 = S ∧ True) := by
  unfold f_M_weight
  exact r_some ⟨rfl, trivial⟩
theorem t_M_endAllOf_B41 {T : Nat → Nat} {S0 S : AS} (g : Rl T kw_M3 S0 0 0 T S) {x0 : Option Nat} {x1 : Int32} {x3 : Int32} {y0 : Int32} {y1 : Int32} {k4 : AS → Option Nat → Int32 → Int32 → Int32 → Option (Int32 × AS)} {n4 : Nat} (hk4 : ∀ (S' : AS) (z0 : Option Nat) (z1 : Int32) (z2 : Int32) (z3 : Int32), Rl T kw_M3 S0 0 0 T S' → Tx T 100 z0 → In 0 60 z3 → (60 + 1 : Int) ≤ z3.toInt + (n4 : Int) → Ho (k4 S' z0 z1 z2 z3) (fun q => Rl T kw_M3 S0 0 0 T q.2 ∧ True)) (hm4 : (60 + 1 : Int) ≤ x3.toInt + ((n4 + 1 : Nat) : Int)) (h_x0 : Tx T 100 x0) (h_x3 : In 0 59 x3) (hx_57_30 : In 1 60 (sI S 57 30)) (hfph0 : Ph S0 ≤ 1160) : Ho (f_M_endAllOf_B41 k4 S x0 x1 x3 y0 y1) (fun q => Rl T kw_M3 S0 0 0 T q.2 ∧ True) := by
  unfold f_M_endAllOf_B41
  refine r_val ?_
  generalize ei1 : (y0 + y1) = i1
  refine r_val ?_
  generalize ei2 : (x3 + (1 : Int32)) = i2
  have qi2 : In 1 60 i2 := by rw [← ei2]; exact (In_w (In_add h_x3 (by decide : In 1 1 (1 : Int32)) (by decide) (by decide)) (by decide) (by decide) : In 1 60 (x3 + (1 : Int32)))
  exact hk4 S x0 x1 i1 i2 (Rlweak g (by decide +kernel) (by decide) (by decide)) h_x0 (In_w qi2 (by decide) (by decide))  (by rw [← ei2, toInt_add1 h_x3 (by decide) (by decide)]; omega)
theorem t_M_endAllOf_B41_4c0 {T : Nat → Nat} {S0 S : AS} (g : Rl T kw_M3 S0 0 0 T S) {x0 : Option Nat} {x1 : Int32} {x3 : Int32} {y0 : Int32} {k4 : AS → Option Nat → Int32 → Int32 → Int32 → Option (Int32 × AS)} {n4 : Nat} (hk4 : ∀ (S' : AS) (z0 : Option Nat) (z1 : Int32) (z2 : Int32) (z3 : Int32), Rl T kw_M3 S0 0 0 T S' → Tx T 100 z0 → In 0 60 z3 → (60 + 1 : Int) ≤ z3.toInt + (n4 : Int) → Ho (k4 S' z0 z1 z2 z3) (fun q => Rl T kw_M3 S0 0 0 T q.2 ∧ True)) (hm4 : (60 + 1 : Int) ≤ x3.toInt + ((n4 + 1 : Nat) : Int)) (h_x0 : Tx T 100 x0) (h_x3 : In 0 59 x3) (hx_57_30 : In 1 60 (sI S 57 30)) (hx_89_x3 : In 0 1 (sI S 89 x3.toNatClampNeg)) (hfph0 : Ph S0 ≤ 1160) : Ho (f_M_endAllOf_B41 k4 S x0 x1 x3 y0 (0 : Int32)) (fun q => Rl T kw_M3 S0 0 0 T q.2 ∧ True) := by
  unfold f_M_endAllOf_B41
  refine r_val ?_
  generalize ei1 : (y0 + (0 : Int32)) = i1
  refine r_val ?_
  generalize ei2 : (x3 + (1 : Int32)) = i2
  have qi2 : In 1 60 i2 := by rw [← ei2]; exact (In_w (In_add h_x3 (by decide : In 1 1 (1 : Int32)) (by decide) (by decide)) (by decide) (by decide) : In 1 60 (x3 + (1 : Int32)))
  exact hk4 S x0 x1 i1 i2 (Rlweak g (by decide +kernel) (by decide) (by decide)) h_x0 (In_w qi2 (by decide) (by decide))  (by rw [← ei2, toInt_add1 h_x3 (by decide) (by decide)]; omega)
theorem t_M_endAllOf_B40 {T : Nat → Nat} {S0 S : AS} (g : Rl T kw_M3 S0 0 0 T S) {x0 : Option Nat} {x1 : Int32} {x3 : Int32} {y0 : Int32} {k4 : AS → Option Nat → Int32 → Int32 → Int32 → Option (Int32 × AS)} {n4 : Nat} (hk4 : ∀ (S' : AS) (z0 : Option Nat) (z1 : Int32) (z2 : Int32) (z3 : Int32), Rl T kw_M3 S0 0 0 T S' → Tx T 100 z0 → In 0 60 z3 → (60 + 1 : Int) ≤ z3.toInt + (n4 : Int) → Ho (k4 S' z0 z1 z2 z3) (fun q => Rl T kw_M3 S0 0 0 T q.2 ∧ True)) (hm4 : (60 + 1 : Int) ≤ x3.toInt + ((n4 + 1 : Nat) : Int)) (h_x0 : Tx T 100 x0) (h_x3 : In 0 59 x3) (hx_57_30 : In 1 60 (sI S 57 30)) (hx_89_x3 : In 0 1 (sI S 89 x3.toNatClampNeg)) (hfph0 : Ph S0 ≤ 1160) : Ho (f_M_endAllOf_B40 k4 S x0 x1 x3 y0) (fun q => Rl T kw_M3 S0 0 0 T q.2 ∧ True) := by
  unfold f_M_endAllOf_B40
  exact t_M_endAllOf_B41_4c0 (Rlweak g (by decide +kernel) (by decide) (by decide)) hk4 hm4 h_x0 (In_w h_x3 (by decide) (by decide)) (In_w hx_57_30 (by decide) (by decide)) (In_w hx_89_x3 (by decide) (by decide)) (Int.le_trans hfph0 (by decide))
theorem t_M_endAllOf_C4 {T : Nat → Nat} {S0 S : AS} (g : Rl T kw_M3 S0 0 0 T S) {x0 : Option Nat} {x1 : Int32} {x2 : Int32} {x3 : Int32} {k4 : AS → Option Nat → Int32 → Int32 → Int32 → Option (Int32 × AS)} {n4 : Nat} (hk4 : ∀ (S' : AS) (z0 : Option Nat) (z1 : Int32) (z2 : Int32) (z3 : Int32), Rl T kw_M3 S0 0 0 T S' → Tx T 100 z0 → In 0 60 z3 → (60 + 1 : Int) ≤ z3.toInt + (n4 : Int) → Ho (k4 S' z0 z1 z2 z3) (fun q => Rl T kw_M3 S0 0 0 T q.2 ∧ True)) (hm4 : (60 + 1 : Int) ≤ x3.toInt + ((n4 + 1 : Nat) : Int)) (h_x0 : Tx T 100 x0) (h_x3 : In 0 60 x3) (hfph0 : Ph S0 ≤ 1160) : Ho (f_M_endAllOf_C4 k4 S x0 x1 x2 x3) (fun q => Rl T kw_M3 S0 0 0 T q.2 ∧ True) := by
  unfold f_M_endAllOf_C4
  refine r_gIs g.1 h_x0 rfl (p := 57) rfl (fun v3 b1 e2 => ?_)
  have q3 : In 0 60 v3 := b1 _ _ rfl
  refine r_if (fun c4 => ?_) (fun c4 => ?_)
  · exact r_some ⟨(Rlweak g (by decide +kernel) (by decide) (by decide)), trivial⟩
  · have q5 : In 0 59 x3 := In_w (In_lt1 (Int32.not_le.mp c4) h_x3 q3) (by decide) (by decide)
    have q6 : In 1 60 v3 := In_w (In_lt2 (Int32.not_le.mp c4) h_x3 q3) (by decide) (by decide)
    refine r_gR g.1 h_x0 rfl rfl (fun v4 h7 => ?_)
    refine r_aIs g.1 h7 rfl (p := 89) rfl rfl (In_w q5 (by decide) (by decide) : In 0 59 x3) (by decide) (fun v5 b8 e9 => ?_)
    have q10 : In 0 1 v5 := b8 _ _ rfl
    refine r_if (fun c11 => ?_) (fun c11 => ?_)
    · have q12 : In 0 0 v5 := In_w (In_eq c11 (by decide : In 0 0 (0 : Int32))) (by decide) (by decide)
      exact t_M_endAllOf_B40 (Rlweak g (by decide +kernel) (by decide) (by decide)) hk4 hm4 h_x0 (In_w q5 (by decide) (by decide)) (In_w (In_cell e2 q6) (by decide) (by decide)) (In_w (In_cell e9 q12) (by decide) (by decide)) (Int.le_trans hfph0 (by decide))
    · have q13 : In 1 1 v5 := In_w (In_neL c11 q10 (by decide)) (by decide) (by decide)
      refine r_gR g.1 h_x0 rfl rfl (fun v6 h14 => ?_)
      refine r_aIs g.1 h14 rfl (p := 85) rfl rfl (In_w q5 (by decide) (by decide) : In 0 59 x3) (by decide) (fun v7 b15 e16 => ?_)
      have q17 : In 0 5 v7 := b15 _ _ rfl
      refine r_if (fun c18 => ?_) (fun c18 => ?_)
      · refine r_rv g.1 h_x0 rfl ?_
        refine r_b2 (t_M_endSession g.1 h_x0 (In_w q5 (by decide) (by decide)) (In_w (In_cell e9 q13) (by decide) (by decide)) (phS hfph0 g (by decide))) (fun v10 s20 h19 => ?_)
        obtain ⟨g21, h19r⟩ := h19
        have g22 : Rl T kw_M3 S0 0 0 T s20 := Rltrans g g21 (by decide +kernel)
        have f23 : In 1 60 (sI s20 57 30) := In_fr57 g21 h_x0 (by decide +kernel) (In_cell e2 q6)
        exact t_M_endAllOf_B41 (Rlweak g22 (by decide +kernel) (by decide) (by decide)) hk4 hm4 h_x0 (In_w q5 (by decide) (by decide)) (In_w f23 (by decide) (by decide)) (Int.le_trans hfph0 (by decide))
      · exact t_M_endAllOf_B40 (Rlweak g (by decide +kernel) (by decide) (by decide)) hk4 hm4 h_x0 (In_w q5 (by decide) (by decide)) (In_w (In_cell e2 q6) (by decide) (by decide)) (In_w (In_cell e9 q13) (by decide) (by decide)) (Int.le_trans hfph0 (by decide))
theorem t_M_endAllOf_L4 {T : Nat → Nat} {S0 : AS} (hfph0 : Ph S0 ≤ 1160) : ∀ (n : Nat) (S : AS) (x0 : Option Nat) (x1 : Int32) (x2 : Int32) (x3 : Int32), Rl T kw_M3 S0 0 0 T S → Tx T 100 x0 → In 0 60 x3 → (60 + 1 : Int) ≤ x3.toInt + (n : Int) → Ho (f_M_endAllOf_L4  n S x0 x1 x2 x3) (fun q => Rl T kw_M3 S0 0 0 T q.2 ∧ True) := by
  intro n
  induction n with
  | zero =>
    intro S x0 x1 x2 x3 g h_x0 h_x3 hm
    exact absurd hm (by have := h_x3.2; omega)
  | succ n ih =>
    intro S x0 x1 x2 x3 g h_x0 h_x3 hm
    exact t_M_endAllOf_C4 g  (fun S' z0 z1 z2 z3 g' a_h_x0 a_h_x3 am => ih S' z0 z1 z2 z3 g' a_h_x0 a_h_x3 am) hm h_x0 h_x3 hfph0
theorem t_M_endAllOf {T : Nat → Nat} {S : AS} (hT : TI T S) {a0 : Option Nat} {a1 : Int32} (h_a0 : Tx T 100 a0) (hfph0 : Ph S ≤ 1160) : Ho (f_M_endAllOf  S a0 a1) (fun q => Rl T kw_M3 S 0 0 T q.2 ∧ True) := by
  have g0 := Rlrf hT
  unfold f_M_endAllOf
  exact t_M_endAllOf_L4  (Int.le_trans hfph0 (by decide)) kr_FU S a0 a1 (0 : Int32) (0 : Int32) (Rlweak g0 (by decide +kernel) (by decide) (by decide)) h_a0 (In_w (by decide : In 0 0 (0 : Int32)) (by decide) (by decide))  (by decide)
theorem t_M_finish_B100_2c1_6c0 {T : Nat → Nat} {S0 S : AS} (g : Rl T [] S0 0 0 T S) {x0 : Option Nat} {x1 : Int32} {x3 : Int32} {x5 : Int32} {y0 : Int32} {k60 : AS → Option Nat → Int32 → Int32 → Int32 → Int32 → Int32 → Option (Int32 × AS)} {n60 : Nat} (hk60 : ∀ (S' : AS) (z0 : Option Nat) (z1 : Int32) (z3 : Int32) (z4 : Int32) (z5 : Int32), Rl T [] S0 0 0 T S' → Tx T 100 z0 → In 0 19 z1 → In 0 1 z3 → In 0 3 z5 → (3 + 1 : Int) ≤ z5.toInt + (n60 : Int) → Ho (k60 S' z0 z1 (1 : Int32) z3 z4 z5) (fun q => Rl T kw_M105 S0 1 0 T q.2 ∧ True)) (hm60 : (3 + 1 : Int) ≤ x5.toInt + ((n60 + 1 : Nat) : Int)) (h_x0 : Tx T 100 x0) (h_x1 : In 0 19 x1) (h_x3 : In 0 1 x3) (h_x5 : In 0 0 x5) (h_y0 : In 0 0 y0) (hfph0 : Ph S0 ≤ 1100) : Ho (f_M_finish_B100 k60 S x0 x1 (1 : Int32) x3 x5 y0 (0 : Int32)) (fun q => Rl T kw_M105 S0 1 0 T q.2 ∧ True) := by
  unfold f_M_finish_B100
  refine r_val ?_
  generalize ei1 : (y0 + (0 : Int32)) = i1
  have qi1 : In 0 0 i1 := by rw [← ei1]; exact (In_w (In_add h_y0 (by decide : In 0 0 (0 : Int32)) (by decide) (by decide)) (by decide) (by decide) : In 0 0 (y0 + (0 : Int32)))
  refine r_val ?_
  generalize ei2 : (x5 + (1 : Int32)) = i2
  have qi2 : In 1 1 i2 := by rw [← ei2]; exact (In_w (In_add h_x5 (by decide : In 1 1 (1 : Int32)) (by decide) (by decide)) (by decide) (by decide) : In 1 1 (x5 + (1 : Int32)))
  exact hk60 S x0 x1 x3 i1 i2 (Rlweak g (by decide +kernel) (by decide) (by decide)) h_x0 (In_w h_x1 (by decide) (by decide)) (In_w h_x3 (by decide) (by decide)) (In_w qi2 (by decide) (by decide))  (by rw [← ei2, toInt_add1 h_x5 (by decide) (by decide)]; omega)
theorem t_M_finish_B100_2c1 {T : Nat → Nat} {S0 S : AS} (g : Rl T [] S0 0 0 T S) {x0 : Option Nat} {x1 : Int32} {x3 : Int32} {x5 : Int32} {y0 : Int32} {y1 : Int32} {k60 : AS → Option Nat → Int32 → Int32 → Int32 → Int32 → Int32 → Option (Int32 × AS)} {n60 : Nat} (hk60 : ∀ (S' : AS) (z0 : Option Nat) (z1 : Int32) (z3 : Int32) (z4 : Int32) (z5 : Int32), Rl T [] S0 0 0 T S' → Tx T 100 z0 → In 0 19 z1 → In 0 1 z3 → In 0 3 z5 → (3 + 1 : Int) ≤ z5.toInt + (n60 : Int) → Ho (k60 S' z0 z1 (1 : Int32) z3 z4 z5) (fun q => Rl T kw_M105 S0 1 0 T q.2 ∧ True)) (hm60 : (3 + 1 : Int) ≤ x5.toInt + ((n60 + 1 : Nat) : Int)) (h_x0 : Tx T 100 x0) (h_x1 : In 0 19 x1) (h_x3 : In 0 1 x3) (h_x5 : In 0 0 x5) (h_y0 : In 0 0 y0) (hfph0 : Ph S0 ≤ 1100) : Ho (f_M_finish_B100 k60 S x0 x1 (1 : Int32) x3 x5 y0 y1) (fun q => Rl T kw_M105 S0 1 0 T q.2 ∧ True) := by
  unfold f_M_finish_B100
  refine r_val ?_
  generalize ei1 : (y0 + y1) = i1
  refine r_val ?_
  generalize ei2 : (x5 + (1 : Int32)) = i2
  have qi2 : In 1 1 i2 := by rw [← ei2]; exact (In_w (In_add h_x5 (by decide : In 1 1 (1 : Int32)) (by decide) (by decide)) (by decide) (by decide) : In 1 1 (x5 + (1 : Int32)))
  exact hk60 S x0 x1 x3 i1 i2 (Rlweak g (by decide +kernel) (by decide) (by decide)) h_x0 (In_w h_x1 (by decide) (by decide)) (In_w h_x3 (by decide) (by decide)) (In_w qi2 (by decide) (by decide))  (by rw [← ei2, toInt_add1 h_x5 (by decide) (by decide)]; omega)
theorem t_M_finish_B100_2c1_6c0_k_2c1 {T : Nat → Nat} {S0 S : AS} (g : Rl T [] S0 0 0 T S) {x0 : Option Nat} {x1 : Int32} {x3 : Int32} {x5 : Int32} {y0 : Int32} {k60 : AS → Option Nat → Int32 → Int32 → Int32 → Int32 → Int32 → Option (Int32 × AS)} {n60 : Nat} (hk60 : ∀ (S' : AS) (z0 : Option Nat) (z1 : Int32) (z3 : Int32) (z4 : Int32) (z5 : Int32), Rl T [] S0 0 0 T S' → Tx T 100 z0 → In 0 19 z1 → In 0 1 z3 → In 0 3 z5 → (3 + 1 : Int) ≤ z5.toInt + (n60 : Int) → Ho (k60 S' z0 z1 (1 : Int32) z3 z4 z5) (fun q => Rl T kw_M105 S0 1 0 T q.2 ∧ True)) (hm60 : (3 + 1 : Int) ≤ x5.toInt + ((n60 + 1 : Nat) : Int)) (h_x0 : Tx T 100 x0) (h_x1 : In 0 19 x1) (h_x3 : In 0 1 x3) (h_x5 : In 0 2 x5) (hfph0 : Ph S0 ≤ 1100) : Ho (f_M_finish_B100 k60 S x0 x1 (1 : Int32) x3 x5 y0 (0 : Int32)) (fun q => Rl T kw_M105 S0 1 0 T q.2 ∧ True) := by
  unfold f_M_finish_B100
  refine r_val ?_
  generalize ei1 : (y0 + (0 : Int32)) = i1
  refine r_val ?_
  generalize ei2 : (x5 + (1 : Int32)) = i2
  have qi2 : In 1 3 i2 := by rw [← ei2]; exact (In_w (In_add h_x5 (by decide : In 1 1 (1 : Int32)) (by decide) (by decide)) (by decide) (by decide) : In 1 3 (x5 + (1 : Int32)))
  exact hk60 S x0 x1 x3 i1 i2 (Rlweak g (by decide +kernel) (by decide) (by decide)) h_x0 (In_w h_x1 (by decide) (by decide)) (In_w h_x3 (by decide) (by decide)) (In_w qi2 (by decide) (by decide))  (by rw [← ei2, toInt_add1 h_x5 (by decide) (by decide)]; omega)
theorem t_M_finish_B100_2c1_k_2c1 {T : Nat → Nat} {S0 S : AS} (g : Rl T [] S0 0 0 T S) {x0 : Option Nat} {x1 : Int32} {x3 : Int32} {x5 : Int32} {y0 : Int32} {y1 : Int32} {k60 : AS → Option Nat → Int32 → Int32 → Int32 → Int32 → Int32 → Option (Int32 × AS)} {n60 : Nat} (hk60 : ∀ (S' : AS) (z0 : Option Nat) (z1 : Int32) (z3 : Int32) (z4 : Int32) (z5 : Int32), Rl T [] S0 0 0 T S' → Tx T 100 z0 → In 0 19 z1 → In 0 1 z3 → In 0 3 z5 → (3 + 1 : Int) ≤ z5.toInt + (n60 : Int) → Ho (k60 S' z0 z1 (1 : Int32) z3 z4 z5) (fun q => Rl T kw_M105 S0 1 0 T q.2 ∧ True)) (hm60 : (3 + 1 : Int) ≤ x5.toInt + ((n60 + 1 : Nat) : Int)) (h_x0 : Tx T 100 x0) (h_x1 : In 0 19 x1) (h_x3 : In 0 1 x3) (h_x5 : In 0 2 x5) (hfph0 : Ph S0 ≤ 1100) : Ho (f_M_finish_B100 k60 S x0 x1 (1 : Int32) x3 x5 y0 y1) (fun q => Rl T kw_M105 S0 1 0 T q.2 ∧ True) := by
  unfold f_M_finish_B100
  refine r_val ?_
  generalize ei1 : (y0 + y1) = i1
  refine r_val ?_
  generalize ei2 : (x5 + (1 : Int32)) = i2
  have qi2 : In 1 3 i2 := by rw [← ei2]; exact (In_w (In_add h_x5 (by decide : In 1 1 (1 : Int32)) (by decide) (by decide)) (by decide) (by decide) : In 1 3 (x5 + (1 : Int32)))
  exact hk60 S x0 x1 x3 i1 i2 (Rlweak g (by decide +kernel) (by decide) (by decide)) h_x0 (In_w h_x1 (by decide) (by decide)) (In_w h_x3 (by decide) (by decide)) (In_w qi2 (by decide) (by decide))  (by rw [← ei2, toInt_add1 h_x5 (by decide) (by decide)]; omega)
theorem t_M_finish_C165 {T : Nat → Nat} {S0 S : AS} (g : Rl T kw_M104 S0 0 0 T S) {x0 : Option Nat} {x1 : Int32} {x5 : Int32} {x6 : Int32} {x7 : Int32} {k165 : AS → Option Nat → Int32 → Int32 → Int32 → Int32 → Option (Int32 × AS)} {n165 : Nat} (hk165 : ∀ (S' : AS) (z0 : Option Nat) (z1 : Int32) (z2 : Int32) (z3 : Int32) (z4 : Int32), Rl T kw_M104 S0 0 0 T S' → Tx T 100 z0 → In 0 19 z1 → In 0 5 z2 → In 0 3 z4 → (3 + 1 : Int) ≤ z4.toInt + (n165 : Int) → Ho (k165 S' z0 z1 z2 z3 z4) (fun q => Rl T kw_M105 S0 1 0 T q.2 ∧ True)) (hm165 : (3 + 1 : Int) ≤ x7.toInt + ((n165 + 1 : Nat) : Int)) (h_x0 : Tx T 100 x0) (h_x1 : In 0 19 x1) (h_x5 : In 0 5 x5) (h_x7 : In 0 3 x7) (hfph0 : Ph S0 ≤ 1100) : Ho (f_M_finish_C165 k165 S x0 x1 x5 x6 x7) (fun q => Rl T kw_M105 S0 1 0 T q.2 ∧ True) := by
  unfold f_M_finish_C165
  refine r_if (fun c1 => ?_) (fun c1 => ?_)
  · have q2 : In 3 3 x7 := In_w (In_le2 c1 (by decide : In 3 3 (3 : Int32)) h_x7) (by decide) (by decide)
    refine r_rv g.1 h_x0 rfl ?_
    refine r_bind (t_M_ready g.1 h_x0 (In_w h_x5 (by decide) (by decide)) (In_w (by decide : In 0 0 (0 : Int32)) (by decide) (by decide))) (fun s3 h4 => ?_)
    have g5 : Rl T kw_M105 S0 0 0 T s3 := Rltrans g h4 (by decide +kernel)
    refine r_rv g5.1 h_x0 rfl ?_
    refine r_bind (t_M_write g5.1 h_x0 (phS hfph0 g5 (by decide))) (fun s6 h7 => ?_)
    obtain ⟨g8, -⟩ := h7
    have g9 : Rl T kw_M105 S0 1 0 T s6 := Rltrans g5 g8 (by decide +kernel)
    exact r_some ⟨(Rlweak g9 (by decide +kernel) (by decide) (by decide)), trivial⟩
  · have q10 : In 0 2 x7 := In_w (In_lt1 (Int32.not_le.mp c1) h_x7 (by decide : In 3 3 (3 : Int32))) (by decide) (by decide)
    refine r_gR g.1 h_x0 rfl rfl (fun v7 h11 => ?_)
    refine r_bIs (w' := kw_M104) g h11 rfl (p := 58) rfl rfl (In_w (In_w (In_add (In_w (In_mulc (k := 3) h_x5 (by decide) (by decide) (by decide) (by decide)) (by decide) (by decide) : In 0 15 ((3 : Int32) * x5)) q10 (by decide) (by decide)) (by decide) (by decide) : In 0 17 (((3 : Int32) * x5) + x7)) (by decide) (by decide) : In 0 17 (((3 : Int32) * x5) + x7)) (by decide) (fun _ _ _ q => by cases q; exact (In_w (by decide : In 0 0 (0 : Int32)) (by decide) (by decide))) (fun _ => rfl) (by decide) (by decide +kernel) (fun _ => by unfold phc; omega) (fun s12 g13 e14 => ?_)
    have f15 : In 0 0 (sI s12 58 (((3 : Int32) * x5) + x7).toNatClampNeg) := In_eqw e14 (In_w (by decide : In 0 0 (0 : Int32)) (by decide) (by decide))
    refine r_val ?_
    generalize ei9 : (x7 + (1 : Int32)) = i9
    have qi9 : In 1 3 i9 := by rw [← ei9]; exact (In_w (In_add q10 (by decide : In 1 1 (1 : Int32)) (by decide) (by decide)) (by decide) (by decide) : In 1 3 (x7 + (1 : Int32)))
    exact hk165 s12 x0 x1 x5 x6 i9 (Rlweak g13 (by decide +kernel) (by decide) (by decide)) h_x0 (In_w h_x1 (by decide) (by decide)) (In_w h_x5 (by decide) (by decide)) (In_w qi9 (by decide) (by decide))  (by rw [← ei9, toInt_add1 q10 (by decide) (by decide)]; omega)
theorem t_M_finish_L165 {T : Nat → Nat} {S0 : AS} (hfph0 : Ph S0 ≤ 1100) : ∀ (n : Nat) (S : AS) (x0 : Option Nat) (x1 : Int32) (x5 : Int32) (x6 : Int32) (x7 : Int32), Rl T kw_M104 S0 0 0 T S → Tx T 100 x0 → In 0 19 x1 → In 0 5 x5 → In 0 3 x7 → (3 + 1 : Int) ≤ x7.toInt + (n : Int) → Ho (f_M_finish_L165  n S x0 x1 x5 x6 x7) (fun q => Rl T kw_M105 S0 1 0 T q.2 ∧ True) := by
  intro n
  induction n with
  | zero =>
    intro S x0 x1 x5 x6 x7 g h_x0 h_x1 h_x5 h_x7 hm
    exact absurd hm (by have := h_x7.2; omega)
  | succ n ih =>
    intro S x0 x1 x5 x6 x7 g h_x0 h_x1 h_x5 h_x7 hm
    exact t_M_finish_C165 g  (fun S' z0 z1 z2 z3 z4 g' a_h_x0 a_h_x1 a_h_x5 a_h_x7 am => ih S' z0 z1 z2 z3 z4 g' a_h_x0 a_h_x1 a_h_x5 a_h_x7 am) hm h_x0 h_x1 h_x5 h_x7 hfph0
theorem t_M_finish_B131_2t100_3c0_4c0 {T : Nat → Nat} {S0 S : AS} (g : Rl T [] S0 0 0 T S) {x0 : Option Nat} {x1 : Int32} {y0 : Option Nat} (h_x0 : Tx T 100 x0) (h_y0 : Tx T 100 y0) (hfph0 : Ph S0 ≤ 1100) : Ho (f_M_finish_B131  S x0 x1 y0 (0 : Int32) (0 : Int32)) (fun q => Rl T kw_M105 S0 1 0 T q.2 ∧ True) := by
  unfold f_M_finish_B131
  refine r_rv g.1 h_y0 rfl ?_
  refine r_mayBoth (w' := kw_M4) g h_y0 (by decide +kernel) (fun s1 g2 g2e c3 c4 => ?_) (fun s1 g2 g2e => ?_)
  · exact absurd rfl c3
  · refine r_ifT (by decide) ?_
    exact r_some ⟨(Rlweak g2 (by decide +kernel) (by decide) (by decide)), trivial⟩
theorem t_M_finish_B131_2t100_3c1_4c1 {T : Nat → Nat} {S0 S : AS} (g : Rl T [] S0 0 0 T S) {x0 : Option Nat} {x1 : Int32} {y0 : Option Nat} (h_x0 : Tx T 100 x0) (h_x1 : In 0 19 x1) (h_y0 : Tx T 100 y0) (hfph0 : Ph S0 ≤ 1100) : Ho (f_M_finish_B131  S x0 x1 y0 (1 : Int32) (1 : Int32)) (fun q => Rl T kw_M105 S0 1 0 T q.2 ∧ True) := by
  unfold f_M_finish_B131
  refine r_rv g.1 h_y0 rfl ?_
  refine r_mayBoth (w' := kw_M4) g h_y0 (by decide +kernel) (fun s1 g2 g2e c3 c4 => ?_) (fun s1 g2 g2e => ?_)
  · refine r_ifF (by decide) ?_
    refine r_gR g2.1 h_x0 rfl rfl (fun v13 h5 => ?_)
    refine r_aIs g2.1 h5 rfl (p := 117) rfl rfl (In_w h_x1 (by decide) (by decide) : In 0 19 x1) (by decide) (fun v14 b6 e7 => ?_)
    have q8 : In 0 5 v14 := b6 _ _ rfl
    refine r_gR g2.1 h_x0 rfl rfl (fun v15 h9 => ?_)
    refine r_bZs (w' := kw_M102) g2 h9 rfl (p := 119) rfl rfl (In_w h_x1 (by decide) (by decide) : In 0 19 x1) (by decide) (In_w (by decide : In 0 0 (0 : Int32)) (by decide) (by decide)) (fun _ _ _ q => by cases q; exact (In_w (by decide : In 0 0 (0 : Int32)) (by decide) (by decide))) (fun _ => rfl) (by decide) (by decide +kernel) (fun _ => by unfold phc; omega) (fun s10 g11 e12 => ?_)
    have f13 : In 0 0 (sI s10 119 x1.toNatClampNeg) := In_eqw e12 (In_w (by decide : In 0 0 (0 : Int32)) (by decide) (by decide))
    refine r_rv g11.1 h_x0 rfl ?_
    refine r_b2 (t_M_endAllOf g11.1 h_x0 (phS hfph0 g11 (by decide))) (fun v19 s15 h14 => ?_)
    obtain ⟨g16, h14r⟩ := h14
    have g17 : Rl T kw_M103 S0 0 0 T s15 := Rltrans g11 g16 (by decide +kernel)
    have f18 : In 0 0 (sI s15 119 x1.toNatClampNeg) := In_fr g16 h_x0 (j := 73) rfl rfl (by decide) (by decide +kernel) f13
    exact t_M_finish_L165  (Int.le_trans hfph0 (by decide)) kr_FU s15 x0 x1 v14 v19 (0 : Int32) (Rlweak g17 (by decide +kernel) (by decide) (by decide)) h_x0 (In_w h_x1 (by decide) (by decide)) (In_w q8 (by decide) (by decide)) (In_w (by decide : In 0 0 (0 : Int32)) (by decide) (by decide))  (by decide)
  · refine r_ifT (by decide) ?_
    exact r_some ⟨(Rlweak g2 (by decide +kernel) (by decide) (by decide)), trivial⟩
theorem t_M_finish_B131_2t100_3c1_4c0 {T : Nat → Nat} {S0 S : AS} (g : Rl T [] S0 0 0 T S) {x0 : Option Nat} {x1 : Int32} {y0 : Option Nat} (h_x0 : Tx T 100 x0) (h_x1 : In 0 19 x1) (h_y0 : Tx T 100 y0) (hfph0 : Ph S0 ≤ 1100) : Ho (f_M_finish_B131  S x0 x1 y0 (1 : Int32) (0 : Int32)) (fun q => Rl T kw_M105 S0 1 0 T q.2 ∧ True) := by
  unfold f_M_finish_B131
  refine r_rv g.1 h_y0 rfl ?_
  refine r_mayBoth (w' := kw_M4) g h_y0 (by decide +kernel) (fun s1 g2 g2e c3 c4 => ?_) (fun s1 g2 g2e => ?_)
  · exact absurd rfl c4
  · refine r_ifT (by decide) ?_
    exact r_some ⟨(Rlweak g2 (by decide +kernel) (by decide) (by decide)), trivial⟩
theorem t_M_finish_B130_2t100_3c0 {T : Nat → Nat} {S0 S : AS} (g : Rl T [] S0 0 0 T S) {x0 : Option Nat} {x1 : Int32} {y0 : Option Nat} (h_x0 : Tx T 100 x0) (h_y0 : Tx T 100 y0) (hfph0 : Ph S0 ≤ 1100) : Ho (f_M_finish_B130  S x0 x1 y0 (0 : Int32)) (fun q => Rl T kw_M105 S0 1 0 T q.2 ∧ True) := by
  unfold f_M_finish_B130
  exact t_M_finish_B131_2t100_3c0_4c0 (Rlweak g (by decide +kernel) (by decide) (by decide))  h_x0 h_y0 (Int.le_trans hfph0 (by decide))
theorem t_M_finish_B130_2t100_3c1 {T : Nat → Nat} {S0 S : AS} (g : Rl T [] S0 0 0 T S) {x0 : Option Nat} {x1 : Int32} {y0 : Option Nat} (h_x0 : Tx T 100 x0) (h_x1 : In 0 19 x1) (h_y0 : Tx T 100 y0) (hfph0 : Ph S0 ≤ 1100) : Ho (f_M_finish_B130  S x0 x1 y0 (1 : Int32)) (fun q => Rl T kw_M105 S0 1 0 T q.2 ∧ True) := by
  unfold f_M_finish_B130
  exact t_M_finish_B131_2t100_3c1_4c0 (Rlweak g (by decide +kernel) (by decide) (by decide))  h_x0 (In_w h_x1 (by decide) (by decide)) h_y0 (Int.le_trans hfph0 (by decide))
theorem t_M_finish_B109_2c0 {T : Nat → Nat} {S0 S : AS} (g : Rl T [] S0 0 0 T S) {x0 : Option Nat} {x1 : Int32} {x3 : Int32} {x4 : Int32} (h_x0 : Tx T 100 x0) (h_x3 : In 0 0 x3) (h_x4 : In 0 0 x4) (hfph0 : Ph S0 ≤ 1100) : Ho (f_M_finish_B109  S x0 x1 (0 : Int32) x3 x4) (fun q => Rl T kw_M105 S0 1 0 T q.2 ∧ True) := by
  unfold f_M_finish_B109
  refine r_if (fun c1 => ?_) (fun c1 => ?_)
  · exact t_M_finish_B130_2t100_3c0 (Rlweak g (by decide +kernel) (by decide) (by decide))  h_x0 h_x0 (Int.le_trans hfph0 (by decide))
  · have q2 : In 1 0 x3 := In_w (In_neL c1 h_x3 (by decide)) (by decide) (by decide)
    exact absurd q2.1 (by have := q2.2; omega)
theorem t_M_finish_B109_2c1 {T : Nat → Nat} {S0 S : AS} (g : Rl T [] S0 0 0 T S) {x0 : Option Nat} {x1 : Int32} {x3 : Int32} {x4 : Int32} (h_x0 : Tx T 100 x0) (h_x1 : In 0 19 x1) (h_x3 : In 0 1 x3) (hfph0 : Ph S0 ≤ 1100) : Ho (f_M_finish_B109  S x0 x1 (1 : Int32) x3 x4) (fun q => Rl T kw_M105 S0 1 0 T q.2 ∧ True) := by
  unfold f_M_finish_B109
  refine r_if (fun c1 => ?_) (fun c1 => ?_)
  · have q2 : In 0 0 x3 := In_w (In_eq c1 (by decide : In 0 0 (0 : Int32))) (by decide) (by decide)
    exact t_M_finish_B130_2t100_3c1 (Rlweak g (by decide +kernel) (by decide) (by decide))  h_x0 (In_w h_x1 (by decide) (by decide)) h_x0 (Int.le_trans hfph0 (by decide))
  · have q3 : In 1 1 x3 := In_w (In_neL c1 h_x3 (by decide)) (by decide) (by decide)
    refine r_gR g.1 h_x0 rfl rfl (fun v20 h4 => ?_)
    refine r_aIs g.1 h4 rfl (p := 121) rfl rfl (In_w h_x1 (by decide) (by decide) : In 0 19 x1) (by decide) (fun v21 b5 e6 => ?_)
    refine r_if (fun c7 => ?_) (fun c7 => ?_)
    · have q8 : In (-2147483648) 2147483646 v21 := In_w (In_lt1 c7 (In_top v21) (In_top x4)) (by decide) (by decide)
      have q9 : In (-2147483647) 2147483647 x4 := In_w (In_lt2 c7 (In_top v21) (In_top x4)) (by decide) (by decide)
      exact t_M_finish_B130_2t100_3c1 (Rlweak g (by decide +kernel) (by decide) (by decide))  h_x0 (In_w h_x1 (by decide) (by decide)) h_x0 (Int.le_trans hfph0 (by decide))
    · exact t_M_finish_B131_2t100_3c1_4c1 (Rlweak g (by decide +kernel) (by decide) (by decide))  h_x0 (In_w h_x1 (by decide) (by decide)) h_x0 (Int.le_trans hfph0 (by decide))
theorem t_M_finish_C60_2c1 {T : Nat → Nat} {S0 S : AS} (g : Rl T [] S0 0 0 T S) {x0 : Option Nat} {x1 : Int32} {x3 : Int32} {x4 : Int32} {x5 : Int32} {k60 : AS → Option Nat → Int32 → Int32 → Int32 → Int32 → Int32 → Option (Int32 × AS)} {n60 : Nat} (hk60 : ∀ (S' : AS) (z0 : Option Nat) (z1 : Int32) (z3 : Int32) (z4 : Int32) (z5 : Int32), Rl T [] S0 0 0 T S' → Tx T 100 z0 → In 0 19 z1 → In 0 1 z3 → In 0 3 z5 → (3 + 1 : Int) ≤ z5.toInt + (n60 : Int) → Ho (k60 S' z0 z1 (1 : Int32) z3 z4 z5) (fun q => Rl T kw_M105 S0 1 0 T q.2 ∧ True)) (hm60 : (3 + 1 : Int) ≤ x5.toInt + ((n60 + 1 : Nat) : Int)) (h_x0 : Tx T 100 x0) (h_x1 : In 0 19 x1) (h_x3 : In 0 1 x3) (h_x5 : In 0 3 x5) (hfph0 : Ph S0 ≤ 1100) : Ho (f_M_finish_C60 k60 S x0 x1 (1 : Int32) x3 x4 x5) (fun q => Rl T kw_M105 S0 1 0 T q.2 ∧ True) := by
  unfold f_M_finish_C60
  refine r_if (fun c1 => ?_) (fun c1 => ?_)
  · have q2 : In 3 3 x5 := In_w (In_le2 c1 (by decide : In 3 3 (3 : Int32)) h_x5) (by decide) (by decide)
    exact t_M_finish_B109_2c1 (Rlweak g (by decide +kernel) (by decide) (by decide))  h_x0 (In_w h_x1 (by decide) (by decide)) (In_w h_x3 (by decide) (by decide)) (Int.le_trans hfph0 (by decide))
  · have q3 : In 0 2 x5 := In_w (In_lt1 (Int32.not_le.mp c1) h_x5 (by decide : In 3 3 (3 : Int32))) (by decide) (by decide)
    refine r_ifF (by decide) ?_
    refine r_gR g.1 h_x0 rfl rfl (fun v22 h4 => ?_)
    refine r_gR g.1 h_x0 rfl rfl (fun v23 h5 => ?_)
    refine r_aIs g.1 h5 rfl (p := 117) rfl rfl (In_w h_x1 (by decide) (by decide) : In 0 19 x1) (by decide) (fun v24 b6 e7 => ?_)
    have q8 : In 0 5 v24 := b6 _ _ rfl
    refine r_aIs g.1 h4 rfl (p := 58) rfl rfl (In_w (In_w (In_add (In_w (In_mulc (k := 3) q8 (by decide) (by decide) (by decide) (by decide)) (by decide) (by decide) : In 0 15 ((3 : Int32) * v24)) q3 (by decide) (by decide)) (by decide) (by decide) : In 0 17 (((3 : Int32) * v24) + x5)) (by decide) (by decide) : In 0 17 (((3 : Int32) * v24) + x5)) (by decide) (fun v25 b9 e10 => ?_)
    have q11 : In 0 2 v25 := b9 _ _ rfl
    refine r_if (fun c12 => ?_) (fun c12 => ?_)
    · have q13 : In 0 0 v25 := In_w (In_eq c12 (by decide : In 0 0 (0 : Int32))) (by decide) (by decide)
      exact t_M_finish_B100_2c1_6c0_k_2c1 (Rlweak g (by decide +kernel) (by decide) (by decide)) hk60 hm60 h_x0 (In_w h_x1 (by decide) (by decide)) (In_w h_x3 (by decide) (by decide)) (In_w q3 (by decide) (by decide)) (Int.le_trans hfph0 (by decide))
    · have q14 : In 1 2 v25 := In_w (In_neL c12 q11 (by decide)) (by decide) (by decide)
      refine r_P (P := fun v => True) (t_M_weight g.1 ) (fun v27 h15 => ?_)
      exact t_M_finish_B100_2c1_k_2c1 (Rlweak g (by decide +kernel) (by decide) (by decide)) hk60 hm60 h_x0 (In_w h_x1 (by decide) (by decide)) (In_w h_x3 (by decide) (by decide)) (In_w q3 (by decide) (by decide)) (Int.le_trans hfph0 (by decide))
theorem t_M_finish_L60_2c1 {T : Nat → Nat} {S0 : AS} (hfph0 : Ph S0 ≤ 1100) : ∀ (n : Nat) (S : AS) (x0 : Option Nat) (x1 : Int32) (x3 : Int32) (x4 : Int32) (x5 : Int32), Rl T [] S0 0 0 T S → Tx T 100 x0 → In 0 19 x1 → In 0 1 x3 → In 0 3 x5 → (3 + 1 : Int) ≤ x5.toInt + (n : Int) → Ho (f_M_finish_L60  n S x0 x1 (1 : Int32) x3 x4 x5) (fun q => Rl T kw_M105 S0 1 0 T q.2 ∧ True) := by
  intro n
  induction n with
  | zero =>
    intro S x0 x1 x3 x4 x5 g h_x0 h_x1 h_x3 h_x5 hm
    exact absurd hm (by have := h_x5.2; omega)
  | succ n ih =>
    intro S x0 x1 x3 x4 x5 g h_x0 h_x1 h_x3 h_x5 hm
    exact t_M_finish_C60_2c1 g  (fun S' z0 z1 z2 z3 z4 g' a_h_x0 a_h_x1 a_h_x3 a_h_x5 am => ih S' z0 z1 z2 z3 z4 g' a_h_x0 a_h_x1 a_h_x3 a_h_x5 am) hm h_x0 h_x1 h_x3 h_x5 hfph0
theorem t_M_finish_C60_2c0 {T : Nat → Nat} {S0 S : AS} (g : Rl T [] S0 0 0 T S) {x0 : Option Nat} {x1 : Int32} {x3 : Int32} {x4 : Int32} {x5 : Int32} {k60 : AS → Option Nat → Int32 → Int32 → Int32 → Int32 → Int32 → Option (Int32 × AS)} {n60 : Nat} (hk60 : ∀ (S' : AS) (z0 : Option Nat) (z1 : Int32) (z3 : Int32) (z4 : Int32) (z5 : Int32), Rl T [] S0 0 0 T S' → Tx T 100 z0 → In 0 0 z3 → In 0 0 z4 → In 0 0 z5 → (0 + 1 : Int) ≤ z5.toInt + (n60 : Int) → Ho (k60 S' z0 z1 (0 : Int32) z3 z4 z5) (fun q => Rl T kw_M105 S0 1 0 T q.2 ∧ True)) (hm60 : (0 + 1 : Int) ≤ x5.toInt + ((n60 + 1 : Nat) : Int)) (h_x0 : Tx T 100 x0) (h_x3 : In 0 0 x3) (h_x4 : In 0 0 x4) (h_x5 : In 0 0 x5) (hfph0 : Ph S0 ≤ 1100) : Ho (f_M_finish_C60 k60 S x0 x1 (0 : Int32) x3 x4 x5) (fun q => Rl T kw_M105 S0 1 0 T q.2 ∧ True) := by
  unfold f_M_finish_C60
  refine r_if (fun c1 => ?_) (fun c1 => ?_)
  · have q2 : In 3 0 x5 := In_w (In_le2 c1 (by decide : In 3 3 (3 : Int32)) h_x5) (by decide) (by decide)
    exact absurd q2.1 (by have := q2.2; omega)
  · refine r_ifT (by decide) ?_
    exact t_M_finish_B109_2c0 (Rlweak g (by decide +kernel) (by decide) (by decide))  h_x0 (In_w h_x3 (by decide) (by decide)) (In_w h_x4 (by decide) (by decide)) (Int.le_trans hfph0 (by decide))
theorem t_M_finish_L60_2c0 {T : Nat → Nat} {S0 : AS} (hfph0 : Ph S0 ≤ 1100) : ∀ (n : Nat) (S : AS) (x0 : Option Nat) (x1 : Int32) (x3 : Int32) (x4 : Int32) (x5 : Int32), Rl T [] S0 0 0 T S → Tx T 100 x0 → In 0 0 x3 → In 0 0 x4 → In 0 0 x5 → (0 + 1 : Int) ≤ x5.toInt + (n : Int) → Ho (f_M_finish_L60  n S x0 x1 (0 : Int32) x3 x4 x5) (fun q => Rl T kw_M105 S0 1 0 T q.2 ∧ True) := by
  intro n
  induction n with
  | zero =>
    intro S x0 x1 x3 x4 x5 g h_x0 h_x3 h_x4 h_x5 hm
    exact absurd hm (by have := h_x5.2; omega)
  | succ n ih =>
    intro S x0 x1 x3 x4 x5 g h_x0 h_x3 h_x4 h_x5 hm
    exact t_M_finish_C60_2c0 g  (fun S' z0 z1 z2 z3 z4 g' a_h_x0 a_h_x3 a_h_x4 a_h_x5 am => ih S' z0 z1 z2 z3 z4 g' a_h_x0 a_h_x3 a_h_x4 a_h_x5 am) hm h_x0 h_x3 h_x4 h_x5 hfph0
theorem t_M_finish_B53_2c1_3c1 {T : Nat → Nat} {S0 S : AS} (g : Rl T [] S0 0 0 T S) {x0 : Option Nat} {x1 : Int32} (h_x0 : Tx T 100 x0) (h_x1 : In 0 19 x1) (hfph0 : Ph S0 ≤ 1100) : Ho (f_M_finish_B53  S x0 x1 (1 : Int32) (1 : Int32)) (fun q => Rl T kw_M105 S0 1 0 T q.2 ∧ True) := by
  unfold f_M_finish_B53
  exact t_M_finish_L60_2c1  (Int.le_trans hfph0 (by decide)) kr_FU S x0 x1 (1 : Int32) (0 : Int32) (0 : Int32) (Rlweak g (by decide +kernel) (by decide) (by decide)) h_x0 (In_w h_x1 (by decide) (by decide)) (In_w (by decide : In 1 1 (1 : Int32)) (by decide) (by decide)) (In_w (by decide : In 0 0 (0 : Int32)) (by decide) (by decide))  (by decide)
theorem t_M_finish_B53_2c1_3c0 {T : Nat → Nat} {S0 S : AS} (g : Rl T [] S0 0 0 T S) {x0 : Option Nat} {x1 : Int32} (h_x0 : Tx T 100 x0) (h_x1 : In 0 19 x1) (hfph0 : Ph S0 ≤ 1100) : Ho (f_M_finish_B53  S x0 x1 (1 : Int32) (0 : Int32)) (fun q => Rl T kw_M105 S0 1 0 T q.2 ∧ True) := by
  unfold f_M_finish_B53
  exact t_M_finish_L60_2c1  (Int.le_trans hfph0 (by decide)) kr_FU S x0 x1 (0 : Int32) (0 : Int32) (0 : Int32) (Rlweak g (by decide +kernel) (by decide) (by decide)) h_x0 (In_w h_x1 (by decide) (by decide)) (In_w (by decide : In 0 0 (0 : Int32)) (by decide) (by decide)) (In_w (by decide : In 0 0 (0 : Int32)) (by decide) (by decide))  (by decide)
theorem t_M_finish_B53_2c0_3c0 {T : Nat → Nat} {S0 S : AS} (g : Rl T [] S0 0 0 T S) {x0 : Option Nat} {x1 : Int32} (h_x0 : Tx T 100 x0) (hfph0 : Ph S0 ≤ 1100) : Ho (f_M_finish_B53  S x0 x1 (0 : Int32) (0 : Int32)) (fun q => Rl T kw_M105 S0 1 0 T q.2 ∧ True) := by
  unfold f_M_finish_B53
  exact t_M_finish_L60_2c0  (Int.le_trans hfph0 (by decide)) kr_FU S x0 x1 (0 : Int32) (0 : Int32) (0 : Int32) (Rlweak g (by decide +kernel) (by decide) (by decide)) h_x0 (In_w (by decide : In 0 0 (0 : Int32)) (by decide) (by decide)) (In_w (by decide : In 0 0 (0 : Int32)) (by decide) (by decide)) (In_w (by decide : In 0 0 (0 : Int32)) (by decide) (by decide))  (by decide)
theorem t_M_finish_B52_2c1 {T : Nat → Nat} {S0 S : AS} (g : Rl T [] S0 0 0 T S) {x0 : Option Nat} {x1 : Int32} (h_x0 : Tx T 100 x0) (h_x1 : In 0 19 x1) (hfph0 : Ph S0 ≤ 1100) : Ho (f_M_finish_B52  S x0 x1 (1 : Int32)) (fun q => Rl T kw_M105 S0 1 0 T q.2 ∧ True) := by
  unfold f_M_finish_B52
  exact t_M_finish_B53_2c1_3c0 (Rlweak g (by decide +kernel) (by decide) (by decide))  h_x0 (In_w h_x1 (by decide) (by decide)) (Int.le_trans hfph0 (by decide))
theorem t_M_finish_B52_2c0 {T : Nat → Nat} {S0 S : AS} (g : Rl T [] S0 0 0 T S) {x0 : Option Nat} {x1 : Int32} (h_x0 : Tx T 100 x0) (hfph0 : Ph S0 ≤ 1100) : Ho (f_M_finish_B52  S x0 x1 (0 : Int32)) (fun q => Rl T kw_M105 S0 1 0 T q.2 ∧ True) := by
  unfold f_M_finish_B52
  exact t_M_finish_B53_2c0_3c0 (Rlweak g (by decide +kernel) (by decide) (by decide))  h_x0 (Int.le_trans hfph0 (by decide))
theorem t_M_finish {T : Nat → Nat} {S : AS} (hT : TI T S) {a0 : Option Nat} {a1 : Int32} (h_a0 : Tx T 100 a0) (hfph0 : Ph S ≤ 1100) : Ho (f_M_finish  S a0 a1) (fun q => Rl T kw_M105 S 1 0 T q.2 ∧ True) := by
  have g0 := Rlrf hT
  unfold f_M_finish
  refine r_rv g0.1 h_a0 rfl ?_
  refine r_spl (u_isRecovery g0.1 h_a0) (fun q1 => ?_) ?_
  · have q2 : In 0 19 a1 := In_w q1.1 (by decide) (by decide)
    refine r_ifF (by decide) ?_
    refine r_gR g0.1 h_a0 rfl rfl (fun v31 h3 => ?_)
    refine r_aIs g0.1 h3 rfl (p := 119) rfl rfl (In_w q2 (by decide) (by decide) : In 0 19 a1) (by decide) (fun v32 b4 e5 => ?_)
    have q6 : In 0 1 v32 := b4 _ _ rfl
    refine r_if (fun c7 => ?_) (fun c7 => ?_)
    · have q8 : In 0 0 v32 := In_w (In_eq c7 (by decide : In 0 0 (0 : Int32))) (by decide) (by decide)
      exact t_M_finish_B52_2c1 (Rlweak g0 (by decide +kernel) (by decide) (by decide))  h_a0 (In_w q2 (by decide) (by decide)) (Int.le_trans hfph0 (by decide))
    · have q9 : In 1 1 v32 := In_w (In_neL c7 q6 (by decide)) (by decide) (by decide)
      refine r_gIs g0.1 h_a0 rfl (p := 57) rfl (fun v33 b10 e11 => ?_)
      refine r_gR g0.1 h_a0 rfl rfl (fun v34 h12 => ?_)
      refine r_aIs g0.1 h12 rfl (p := 118) rfl rfl (In_w q2 (by decide) (by decide) : In 0 19 a1) (by decide) (fun v35 b13 e14 => ?_)
      refine r_if (fun c15 => ?_) (fun c15 => ?_)
      · exact t_M_finish_B52_2c1 (Rlweak g0 (by decide +kernel) (by decide) (by decide))  h_a0 (In_w q2 (by decide) (by decide)) (Int.le_trans hfph0 (by decide))
      · refine r_gR g0.1 h_a0 rfl rfl (fun v36 h16 => ?_)
        refine r_aIs g0.1 h16 rfl (p := 120) rfl rfl (In_w q2 (by decide) (by decide) : In 0 19 a1) (by decide) (fun v37 b17 e18 => ?_)
        refine r_P (P := fun v => True) (t_M_many g0.1 ) (fun v39 h19 => ?_)
        refine r_if (fun c20 => ?_) (fun c20 => ?_)
        · have q21 : In (-2147483648) 1 v39 := In_w (In_lt1 c20 (In_top v39) (by decide : In 2 2 (2 : Int32))) (by decide) (by decide)
          exact t_M_finish_B52_2c1 (Rlweak g0 (by decide +kernel) (by decide) (by decide))  h_a0 (In_w q2 (by decide) (by decide)) (Int.le_trans hfph0 (by decide))
        · have q22 : In 2 2147483647 v39 := In_w (In_le2 (Int32.not_lt.mp c20) (by decide : In 2 2 (2 : Int32)) (In_top v39)) (by decide) (by decide)
          exact t_M_finish_B53_2c1_3c1 (Rlweak g0 (by decide +kernel) (by decide) (by decide))  h_a0 (In_w q2 (by decide) (by decide)) (Int.le_trans hfph0 (by decide))
  · refine r_ifT (by decide) ?_
    exact t_M_finish_B52_2c0 (Rlweak g0 (by decide +kernel) (by decide) (by decide))  h_a0 (Int.le_trans hfph0 (by decide))
theorem t_M_link_B58_3t100_4c1_5c1 {T : Nat → Nat} {S0 S : AS} (g : Rl T [] S0 0 0 T S) {x0 : Option Nat} {x1 : Int32} {x2 : Int32} {y0 : Option Nat} (h_x0 : Tx T 100 x0) (h_x1 : In 0 5 x1) (h_x2 : In (-1) 5 x2) (h_y0 : Tx T 100 y0) : Ho (f_M_link_B58  S x0 x1 x2 y0 (1 : Int32) (1 : Int32)) (fun q => Rl T kw_M106 S0 0 0 T q.2 ∧ In (-1) 5 q.1) := by
  unfold f_M_link_B58
  refine r_rv g.1 h_y0 rfl ?_
  refine r_mayBoth (w' := kw_M4) g h_y0 (by decide +kernel) (fun s1 g2 g2e c3 c4 => ?_) (fun s1 g2 g2e => ?_)
  · refine r_ifF (by decide) ?_
    refine r_gR g2.1 h_x0 rfl rfl (fun v4 h5 => ?_)
    refine r_aIs g2.1 h5 rfl (p := 122) rfl rfl (In_w h_x1 (by decide) (by decide) : In 0 5 x1) (by decide) (fun v5 b6 e7 => ?_)
    have q8 : In (-1) 5 v5 := b6 _ _ rfl
    refine r_gR g2.1 h_x0 rfl rfl (fun v6 h9 => ?_)
    refine r_bIs (w' := kw_M106) g2 h9 rfl (p := 122) rfl rfl (In_w h_x1 (by decide) (by decide) : In 0 5 x1) (by decide) (fun _ _ _ q => by cases q; exact (In_w h_x2 (by decide) (by decide))) (fun _ => rfl) (by decide) (by decide +kernel) (fun _ => by unfold phc; omega) (fun s10 g11 e12 => ?_)
    have f13 : In (-1) 5 (sI s10 122 x1.toNatClampNeg) := In_eqw e12 (In_w h_x2 (by decide) (by decide))
    exact r_some ⟨(Rlweak g11 (by decide +kernel) (by decide) (by decide)), (In_w q8 (by decide) (by decide))⟩
  · refine r_ifT (by decide) ?_
    exact r_some ⟨(Rlweak g2 (by decide +kernel) (by decide) (by decide)), (In_w (by decide : In 0 0 (0 : Int32)) (by decide) (by decide))⟩
theorem t_M_link_B58_3t100_4c1_5c0 {T : Nat → Nat} {S0 S : AS} (g : Rl T [] S0 0 0 T S) {x0 : Option Nat} {x1 : Int32} {x2 : Int32} {y0 : Option Nat} (h_x0 : Tx T 100 x0) (h_x1 : In 0 5 x1) (h_x2 : In 0 5 x2) (h_y0 : Tx T 100 y0) (hx_122_x1 : In 0 5 (sI S 122 x1.toNatClampNeg)) : Ho (f_M_link_B58  S x0 x1 x2 y0 (1 : Int32) (0 : Int32)) (fun q => Rl T kw_M106 S0 0 0 T q.2 ∧ In (-1) 5 q.1) := by
  unfold f_M_link_B58
  refine r_rv g.1 h_y0 rfl ?_
  refine r_mayBoth (w' := kw_M4) g h_y0 (by decide +kernel) (fun s1 g2 g2e c3 c4 => ?_) (fun s1 g2 g2e => ?_)
  · exact absurd rfl c4
  · have f5 : In 0 5 (sI s1 122 x1.toNatClampNeg) := by rw [g2e 122 x1.toNatClampNeg (by omega)]; exact hx_122_x1
    refine r_ifT (by decide) ?_
    exact r_some ⟨(Rlweak g2 (by decide +kernel) (by decide) (by decide)), (In_w (by decide : In 0 0 (0 : Int32)) (by decide) (by decide))⟩
theorem t_M_link_B58_3t100_4c0_5c0 {T : Nat → Nat} {S0 S : AS} (g : Rl T [] S0 0 0 T S) {x0 : Option Nat} {x1 : Int32} {x2 : Int32} {y0 : Option Nat} (h_x0 : Tx T 100 x0) (h_y0 : Tx T 100 y0) : Ho (f_M_link_B58  S x0 x1 x2 y0 (0 : Int32) (0 : Int32)) (fun q => Rl T kw_M106 S0 0 0 T q.2 ∧ In (-1) 5 q.1) := by
  unfold f_M_link_B58
  refine r_rv g.1 h_y0 rfl ?_
  refine r_mayBoth (w' := kw_M4) g h_y0 (by decide +kernel) (fun s1 g2 g2e c3 c4 => ?_) (fun s1 g2 g2e => ?_)
  · exact absurd rfl c3
  · refine r_ifT (by decide) ?_
    exact r_some ⟨(Rlweak g2 (by decide +kernel) (by decide) (by decide)), (In_w (by decide : In 0 0 (0 : Int32)) (by decide) (by decide))⟩
theorem t_M_link_B53_3t100_4c1 {T : Nat → Nat} {S0 S : AS} (g : Rl T [] S0 0 0 T S) {x0 : Option Nat} {x1 : Int32} {x2 : Int32} {y0 : Option Nat} (h_x0 : Tx T 100 x0) (h_x1 : In 0 5 x1) (h_x2 : In (-1) 5 x2) (h_y0 : Tx T 100 y0) : Ho (f_M_link_B53  S x0 x1 x2 y0 (1 : Int32)) (fun q => Rl T kw_M106 S0 0 0 T q.2 ∧ In (-1) 5 q.1) := by
  unfold f_M_link_B53
  exact t_M_link_B58_3t100_4c1_5c1 (Rlweak g (by decide +kernel) (by decide) (by decide))  h_x0 (In_w h_x1 (by decide) (by decide)) (In_w h_x2 (by decide) (by decide)) h_y0 
theorem t_M_link_B57_3t100_4c1 {T : Nat → Nat} {S0 S : AS} (g : Rl T [] S0 0 0 T S) {x0 : Option Nat} {x1 : Int32} {x2 : Int32} {y0 : Option Nat} (h_x0 : Tx T 100 x0) (h_x1 : In 0 5 x1) (h_x2 : In 0 5 x2) (h_y0 : Tx T 100 y0) (hx_122_x1 : In 0 5 (sI S 122 x1.toNatClampNeg)) : Ho (f_M_link_B57  S x0 x1 x2 y0 (1 : Int32)) (fun q => Rl T kw_M106 S0 0 0 T q.2 ∧ In (-1) 5 q.1) := by
  unfold f_M_link_B57
  exact t_M_link_B58_3t100_4c1_5c0 (Rlweak g (by decide +kernel) (by decide) (by decide))  h_x0 (In_w h_x1 (by decide) (by decide)) (In_w h_x2 (by decide) (by decide)) h_y0 (In_w hx_122_x1 (by decide) (by decide)) 
theorem t_M_link_B57_3t100_4c0 {T : Nat → Nat} {S0 S : AS} (g : Rl T [] S0 0 0 T S) {x0 : Option Nat} {x1 : Int32} {x2 : Int32} {y0 : Option Nat} (h_x0 : Tx T 100 x0) (h_y0 : Tx T 100 y0) : Ho (f_M_link_B57  S x0 x1 x2 y0 (0 : Int32)) (fun q => Rl T kw_M106 S0 0 0 T q.2 ∧ In (-1) 5 q.1) := by
  unfold f_M_link_B57
  exact t_M_link_B58_3t100_4c0_5c0 (Rlweak g (by decide +kernel) (by decide) (by decide))  h_x0 h_y0 
theorem t_M_link_B21_3c1 {T : Nat → Nat} {S0 S : AS} (g : Rl T [] S0 0 0 T S) {x0 : Option Nat} {x1 : Int32} {x2 : Int32} (h_x0 : Tx T 100 x0) (h_x1 : In 0 5 x1) (h_x2 : In (-1) 5 x2) : Ho (f_M_link_B21  S x0 x1 x2 (1 : Int32)) (fun q => Rl T kw_M106 S0 0 0 T q.2 ∧ In (-1) 5 q.1) := by
  unfold f_M_link_B21
  refine r_ifF (by decide) ?_
  refine r_if (fun c1 => ?_) (fun c1 => ?_)
  · have q2 : In (-1) (-1) x2 := In_w (In_eq c1 (by decide : In (-1) (-1) (-1 : Int32))) (by decide) (by decide)
    exact t_M_link_B53_3t100_4c1 (Rlweak g (by decide +kernel) (by decide) (by decide))  h_x0 (In_w h_x1 (by decide) (by decide)) (In_w q2 (by decide) (by decide)) h_x0 
  · have q3 : In 0 5 x2 := In_w (In_neL c1 h_x2 (by decide)) (by decide) (by decide)
    refine r_gR g.1 h_x0 rfl rfl (fun v8 h4 => ?_)
    refine r_aIs g.1 h4 rfl (p := 122) rfl rfl (In_w h_x1 (by decide) (by decide) : In 0 5 x1) (by decide) (fun v9 b5 e6 => ?_)
    have q7 : In (-1) 5 v9 := b5 _ _ rfl
    refine r_if (fun c8 => ?_) (fun c8 => ?_)
    · have q9 : In (-1) (-1) v9 := In_w (In_eq c8 (by decide : In (-1) (-1) (-1 : Int32))) (by decide) (by decide)
      exact t_M_link_B53_3t100_4c1 (Rlweak g (by decide +kernel) (by decide) (by decide))  h_x0 (In_w h_x1 (by decide) (by decide)) (In_w q3 (by decide) (by decide)) h_x0 
    · have q10 : In 0 5 v9 := In_w (In_neL c8 q7 (by decide)) (by decide) (by decide)
      refine r_gR g.1 h_x0 rfl rfl (fun v10 h11 => ?_)
      refine r_aIs g.1 h11 rfl (p := 122) rfl rfl (In_w h_x1 (by decide) (by decide) : In 0 5 x1) (by decide) (fun v11 b12 e13 => ?_)
      have q14 : In (-1) 5 v11 := b12 _ _ rfl
      have q15 : In 0 5 v11 := In_w (In_read e13 (In_cell e6 q10)) (by decide) (by decide)
      refine r_if (fun c16 => ?_) (fun c16 => ?_)
      · exact t_M_link_B53_3t100_4c1 (Rlweak g (by decide +kernel) (by decide) (by decide))  h_x0 (In_w h_x1 (by decide) (by decide)) (In_w q3 (by decide) (by decide)) h_x0
      · exact t_M_link_B57_3t100_4c1 (Rlweak g (by decide +kernel) (by decide) (by decide))  h_x0 (In_w h_x1 (by decide) (by decide)) (In_w q3 (by decide) (by decide)) h_x0 (In_w (In_cell e13 q15) (by decide) (by decide))
theorem t_M_link_B21_3c0 {T : Nat → Nat} {S0 S : AS} (g : Rl T [] S0 0 0 T S) {x0 : Option Nat} {x1 : Int32} {x2 : Int32} (h_x0 : Tx T 100 x0) : Ho (f_M_link_B21  S x0 x1 x2 (0 : Int32)) (fun q => Rl T kw_M106 S0 0 0 T q.2 ∧ In (-1) 5 q.1) := by
  unfold f_M_link_B21
  refine r_ifT (by decide) ?_
  exact t_M_link_B57_3t100_4c0 (Rlweak g (by decide +kernel) (by decide) (by decide))  h_x0 h_x0 
theorem t_M_link_B20 {T : Nat → Nat} {S0 S : AS} (g : Rl T [] S0 0 0 T S) {x0 : Option Nat} {x1 : Int32} {x2 : Int32} (h_x0 : Tx T 100 x0) : Ho (f_M_link_B20  S x0 x1 x2) (fun q => Rl T kw_M106 S0 0 0 T q.2 ∧ In (-1) 5 q.1) := by
  unfold f_M_link_B20
  exact t_M_link_B21_3c0 (Rlweak g (by decide +kernel) (by decide) (by decide))  h_x0 
theorem t_M_link {T : Nat → Nat} {S : AS} (hT : TI T S) {a0 : Option Nat} {a1 : Int32} {a2 : Int32} (h_a0 : Tx T 100 a0) : Ho (f_M_link  S a0 a1 a2) (fun q => Rl T kw_M106 S 0 0 T q.2 ∧ In (-1) 5 q.1) := by
  have g0 := Rlrf hT
  unfold f_M_link
  refine r_spl (u_isSix _ _) (fun q1 => ?_) ?_
  · have q2 : In 0 5 a1 := In_w q1 (by decide) (by decide)
    refine r_ifF (by decide) ?_
    refine r_Mi (fun p3 p3b => ?_) ?_
    · have q4 : In (-1) 2147483647 a2 := In_w (In_le2 p3 (by decide : In (-1) (-1) (-1 : Int32)) (In_top a2)) (by decide) (by decide)
      have q5 : In (-1) 5 a2 := In_w (In_le1 p3b q4 (by decide : In 5 5 (5 : Int32))) (by decide) (by decide)
      refine r_ifF (by decide) ?_
      exact t_M_link_B21_3c1 (Rlweak g0 (by decide +kernel) (by decide) (by decide))  h_a0 (In_w q2 (by decide) (by decide)) (In_w q5 (by decide) (by decide)) 
    · refine r_ifT (by decide) ?_
      exact t_M_link_B20 (Rlweak g0 (by decide +kernel) (by decide) (by decide))  h_a0 
  · refine r_ifT (by decide) ?_
    exact t_M_link_B20 (Rlweak g0 (by decide +kernel) (by decide) (by decide))  h_a0 
theorem t_M_foreign_B49_2t100_3c1_4c1 {T : Nat → Nat} {S0 S : AS} (g : Rl T [] S0 0 0 T S) {x0 : Option Nat} {x1 : Int32} {y0 : Option Nat} (h_x0 : Tx T 100 x0) (h_x1 : In 0 5 x1) (h_y0 : Tx T 100 y0) (hx_57_30 : In 0 59 (sI S 57 30)) (hx_122_x1 : In 0 5 (sI S 122 x1.toNatClampNeg)) (hfph0 : Ph S0 ≤ 1100) : Ho (f_M_foreign_B49  S x0 x1 y0 (1 : Int32) (1 : Int32)) (fun q => Rl T kw_M50 S0 0 0 T q.2 ∧ In 0 59 q.1) := by
  unfold f_M_foreign_B49
  refine r_rv g.1 h_y0 rfl ?_
  refine r_mayBoth (w' := kw_M4) g h_y0 (by decide +kernel) (fun s1 g2 g2e c3 c4 => ?_) (fun s1 g2 g2e => ?_)
  · have f5 : In 0 59 (sI s1 57 30) := by rw [g2e 57 30 (by omega)]; exact hx_57_30
    have f6 : In 0 5 (sI s1 122 x1.toNatClampNeg) := by rw [g2e 122 x1.toNatClampNeg (by omega)]; exact hx_122_x1
    refine r_ifF (by decide) ?_
    refine r_gR g2.1 h_x0 rfl rfl (fun v4 h7 => ?_)
    refine r_aIs g2.1 h7 rfl (p := 122) rfl rfl (In_w h_x1 (by decide) (by decide) : In 0 5 x1) (by decide) (fun v5 b8 e9 => ?_)
    have q10 : In (-1) 5 v5 := b8 _ _ rfl
    have q11 : In 0 5 v5 := In_w (In_read e9 f6) (by decide) (by decide)
    refine r_rv g2.1 h_x0 rfl ?_
    refine r_b2 (t_M_newSession g2.1 h_x0 (In_w q11 (by decide) (by decide)) (In_w (by decide : In (-1) (-1) (-1 : Int32)) (by decide) (by decide)) (In_w f5 (by decide) (by decide)) (phS hfph0 g2 (by decide))) (fun v8 s13 h12 => ?_)
    obtain ⟨g14, h12r⟩ := h12
    have g15 : Rl T kw_M50 S0 0 0 T s13 := Rltrans g2 g14 (by decide +kernel)
    have f16 : In 0 5 (sI s13 122 x1.toNatClampNeg) := In_fr g14 h_x0 (j := 76) rfl rfl (by decide) (by decide +kernel) (In_cell e9 q11)
    exact r_some ⟨(Rlweak g15 (by decide +kernel) (by decide) (by decide)), (In_w h12r (by decide) (by decide))⟩
  · have f17 : In 0 59 (sI s1 57 30) := by rw [g2e 57 30 (by omega)]; exact hx_57_30
    have f18 : In 0 5 (sI s1 122 x1.toNatClampNeg) := by rw [g2e 122 x1.toNatClampNeg (by omega)]; exact hx_122_x1
    refine r_ifT (by decide) ?_
    exact r_some ⟨(Rlweak g2 (by decide +kernel) (by decide) (by decide)), (In_w (by decide : In 0 0 (0 : Int32)) (by decide) (by decide))⟩
theorem t_M_foreign_B49_2t100_3c1_4c0 {T : Nat → Nat} {S0 S : AS} (g : Rl T [] S0 0 0 T S) {x0 : Option Nat} {x1 : Int32} {y0 : Option Nat} (h_x0 : Tx T 100 x0) (h_x1 : In 0 5 x1) (h_y0 : Tx T 100 y0) (hx_122_x1 : In (-1) 5 (sI S 122 x1.toNatClampNeg)) (hfph0 : Ph S0 ≤ 1100) : Ho (f_M_foreign_B49  S x0 x1 y0 (1 : Int32) (0 : Int32)) (fun q => Rl T kw_M50 S0 0 0 T q.2 ∧ In 0 59 q.1) := by
  unfold f_M_foreign_B49
  refine r_rv g.1 h_y0 rfl ?_
  refine r_mayBoth (w' := kw_M4) g h_y0 (by decide +kernel) (fun s1 g2 g2e c3 c4 => ?_) (fun s1 g2 g2e => ?_)
  · exact absurd rfl c4
  · have f5 : In (-1) 5 (sI s1 122 x1.toNatClampNeg) := by rw [g2e 122 x1.toNatClampNeg (by omega)]; exact hx_122_x1
    refine r_ifT (by decide) ?_
    exact r_some ⟨(Rlweak g2 (by decide +kernel) (by decide) (by decide)), (In_w (by decide : In 0 0 (0 : Int32)) (by decide) (by decide))⟩
theorem t_M_foreign_B49_2t100_3c0_4c0 {T : Nat → Nat} {S0 S : AS} (g : Rl T [] S0 0 0 T S) {x0 : Option Nat} {x1 : Int32} {y0 : Option Nat} (h_x0 : Tx T 100 x0) (h_y0 : Tx T 100 y0) (hfph0 : Ph S0 ≤ 1100) : Ho (f_M_foreign_B49  S x0 x1 y0 (0 : Int32) (0 : Int32)) (fun q => Rl T kw_M50 S0 0 0 T q.2 ∧ In 0 59 q.1) := by
  unfold f_M_foreign_B49
  refine r_rv g.1 h_y0 rfl ?_
  refine r_mayBoth (w' := kw_M4) g h_y0 (by decide +kernel) (fun s1 g2 g2e c3 c4 => ?_) (fun s1 g2 g2e => ?_)
  · exact absurd rfl c3
  · refine r_ifT (by decide) ?_
    exact r_some ⟨(Rlweak g2 (by decide +kernel) (by decide) (by decide)), (In_w (by decide : In 0 0 (0 : Int32)) (by decide) (by decide))⟩
theorem t_M_foreign_B48_2t100_3c1 {T : Nat → Nat} {S0 S : AS} (g : Rl T [] S0 0 0 T S) {x0 : Option Nat} {x1 : Int32} {y0 : Option Nat} (h_x0 : Tx T 100 x0) (h_x1 : In 0 5 x1) (h_y0 : Tx T 100 y0) (hx_122_x1 : In (-1) 5 (sI S 122 x1.toNatClampNeg)) (hfph0 : Ph S0 ≤ 1100) : Ho (f_M_foreign_B48  S x0 x1 y0 (1 : Int32)) (fun q => Rl T kw_M50 S0 0 0 T q.2 ∧ In 0 59 q.1) := by
  unfold f_M_foreign_B48
  exact t_M_foreign_B49_2t100_3c1_4c0 (Rlweak g (by decide +kernel) (by decide) (by decide))  h_x0 (In_w h_x1 (by decide) (by decide)) h_y0 (In_w hx_122_x1 (by decide) (by decide)) (Int.le_trans hfph0 (by decide))
theorem t_M_foreign_B48_2t100_3c0 {T : Nat → Nat} {S0 S : AS} (g : Rl T [] S0 0 0 T S) {x0 : Option Nat} {x1 : Int32} {y0 : Option Nat} (h_x0 : Tx T 100 x0) (h_y0 : Tx T 100 y0) (hfph0 : Ph S0 ≤ 1100) : Ho (f_M_foreign_B48  S x0 x1 y0 (0 : Int32)) (fun q => Rl T kw_M50 S0 0 0 T q.2 ∧ In 0 59 q.1) := by
  unfold f_M_foreign_B48
  exact t_M_foreign_B49_2t100_3c0_4c0 (Rlweak g (by decide +kernel) (by decide) (by decide))  h_x0 h_y0 (Int.le_trans hfph0 (by decide))
theorem t_M_foreign {T : Nat → Nat} {S : AS} (hT : TI T S) {a0 : Option Nat} {a1 : Int32} (h_a0 : Tx T 100 a0) (hfph0 : Ph S ≤ 1100) : Ho (f_M_foreign  S a0 a1) (fun q => Rl T kw_M50 S 0 0 T q.2 ∧ In 0 59 q.1) := by
  have g0 := Rlrf hT
  unfold f_M_foreign
  refine r_spl (u_isSix _ _) (fun q1 => ?_) ?_
  · have q2 : In 0 5 a1 := In_w q1 (by decide) (by decide)
    refine r_ifF (by decide) ?_
    refine r_gR g0.1 h_a0 rfl rfl (fun v11 h3 => ?_)
    refine r_aIs g0.1 h3 rfl (p := 122) rfl rfl (In_w q2 (by decide) (by decide) : In 0 5 a1) (by decide) (fun v12 b4 e5 => ?_)
    have q6 : In (-1) 5 v12 := b4 _ _ rfl
    refine r_if (fun c7 => ?_) (fun c7 => ?_)
    · have q8 : In (-1) (-1) v12 := In_w (In_eq c7 (by decide : In (-1) (-1) (-1 : Int32))) (by decide) (by decide)
      exact t_M_foreign_B48_2t100_3c1 (Rlweak g0 (by decide +kernel) (by decide) (by decide))  h_a0 (In_w q2 (by decide) (by decide)) h_a0 (In_w (In_cell e5 q8) (by decide) (by decide)) (Int.le_trans hfph0 (by decide))
    · have q9 : In 0 5 v12 := In_w (In_neL c7 q6 (by decide)) (by decide) (by decide)
      refine r_gR g0.1 h_a0 rfl rfl (fun v13 h10 => ?_)
      refine r_gR g0.1 h_a0 rfl rfl (fun v14 h11 => ?_)
      refine r_aIs g0.1 h11 rfl (p := 122) rfl rfl (In_w q2 (by decide) (by decide) : In 0 5 a1) (by decide) (fun v15 b12 e13 => ?_)
      have q14 : In (-1) 5 v15 := b12 _ _ rfl
      have q15 : In 0 5 v15 := In_w (In_read e13 (In_cell e5 q9)) (by decide) (by decide)
      refine r_aIs g0.1 h10 rfl (p := 64) rfl rfl (In_w q15 (by decide) (by decide) : In 0 5 v15) (by decide) (fun v16 b16 e17 => ?_)
      have q18 : In 0 1 v16 := b16 _ _ rfl
      refine r_if (fun c19 => ?_) (fun c19 => ?_)
      · have q20 : In 0 0 v16 := In_w (In_eq c19 (by decide : In 0 0 (0 : Int32))) (by decide) (by decide)
        refine r_gIs g0.1 h_a0 rfl (p := 57) rfl (fun v17 b21 e22 => ?_)
        have q23 : In 0 60 v17 := b21 _ _ rfl
        refine r_if (fun c24 => ?_) (fun c24 => ?_)
        · have q25 : In 60 60 v17 := In_w (In_le2 c24 (by decide : In 60 60 (60 : Int32)) q23) (by decide) (by decide)
          exact t_M_foreign_B48_2t100_3c1 (Rlweak g0 (by decide +kernel) (by decide) (by decide))  h_a0 (In_w q2 (by decide) (by decide)) h_a0 (In_w (In_cell e13 q15) (by decide) (by decide)) (Int.le_trans hfph0 (by decide))
        · have q26 : In 0 59 v17 := In_w (In_lt1 (Int32.not_le.mp c24) q23 (by decide : In 60 60 (60 : Int32))) (by decide) (by decide)
          exact t_M_foreign_B49_2t100_3c1_4c1 (Rlweak g0 (by decide +kernel) (by decide) (by decide))  h_a0 (In_w q2 (by decide) (by decide)) h_a0 (In_w (In_cell e22 q26) (by decide) (by decide)) (In_w (In_cell e13 q15) (by decide) (by decide)) (Int.le_trans hfph0 (by decide))
      · have q27 : In 1 1 v16 := In_w (In_neL c19 q18 (by decide)) (by decide) (by decide)
        exact t_M_foreign_B48_2t100_3c1 (Rlweak g0 (by decide +kernel) (by decide) (by decide))  h_a0 (In_w q2 (by decide) (by decide)) h_a0 (In_w (In_cell e13 q15) (by decide) (by decide)) (Int.le_trans hfph0 (by decide))
  · refine r_ifT (by decide) ?_
    exact t_M_foreign_B48_2t100_3c0 (Rlweak g0 (by decide +kernel) (by decide) (by decide))  h_a0 h_a0 (Int.le_trans hfph0 (by decide))
theorem t_M_leave_B94_4t125_6c2 {T : Nat → Nat} {S0 S : AS} (g : Rl T kw_M109 S0 0 0 T S) {x0 : Option Nat} {x1 : Int32} {x2 : Int32} {x3 : Int32} {y0 : Option Nat} {y1 : Int32} {k52 : AS → Option Nat → Int32 → Int32 → Int32 → Option (Int32 × AS)} {n52 : Nat} (hk52 : ∀ (S' : AS) (z0 : Option Nat) (z1 : Int32) (z2 : Int32) (z3 : Int32), Rl T kw_M109 S0 0 0 T S' → Tx T 100 z0 → In 0 5 z1 → In 0 60 z3 → (60 + 1 : Int) ≤ z3.toInt + (n52 : Int) → Ho (k52 S' z0 z1 z2 z3) (fun q => Rl T kw_M110 S0 0 0 T q.2 ∧ True)) (hm52 : (60 + 1 : Int) ≤ x3.toInt + ((n52 + 1 : Nat) : Int)) (h_x0 : Tx T 100 x0) (h_x1 : In 0 5 x1) (h_x3 : In 0 59 x3) (h_y0 : Tx T 125 y0) (h_y1 : In 0 59 y1) (hx_57_19 : In 1 60 (sI S 57 19)) (hfph0 : Ph S0 ≤ 1100) : Ho (f_M_leave_B94 k52 S x0 x1 x2 x3 y0 y1 (2 : Int32)) (fun q => Rl T kw_M110 S0 0 0 T q.2 ∧ True) := by
  unfold f_M_leave_B94
  refine r_bIs (w' := kw_M109) g h_y0 rfl (p := 80) rfl rfl (In_w h_y1 (by decide) (by decide) : In 0 59 y1) (by decide) (fun _ _ _ q => by cases q; exact (In_w (by decide : In 2 2 (2 : Int32)) (by decide) (by decide))) (fun _ => rfl) (by decide) (by decide +kernel) (fun _ => by unfold phc; omega) (fun s1 g2 e3 => ?_)
  have f4 : In 1 60 (sI s1 57 19) := In_ne e3 (by omega) hx_57_19
  have f5 : In 2 2 (sI s1 80 y1.toNatClampNeg) := In_eqw e3 (In_w (by decide : In 2 2 (2 : Int32)) (by decide) (by decide))
  refine r_val ?_
  generalize ei2 : (x3 + (1 : Int32)) = i2
  have qi2 : In 1 60 i2 := by rw [← ei2]; exact (In_w (In_add h_x3 (by decide : In 1 1 (1 : Int32)) (by decide) (by decide)) (by decide) (by decide) : In 1 60 (x3 + (1 : Int32)))
  exact hk52 s1 x0 x1 x2 i2 (Rlweak g2 (by decide +kernel) (by decide) (by decide)) h_x0 (In_w h_x1 (by decide) (by decide)) (In_w qi2 (by decide) (by decide))  (by rw [← ei2, toInt_add1 h_x3 (by decide) (by decide)]; omega)
theorem t_M_leave_B94_4t125 {T : Nat → Nat} {S0 S : AS} (g : Rl T kw_M109 S0 0 0 T S) {x0 : Option Nat} {x1 : Int32} {x2 : Int32} {x3 : Int32} {y0 : Option Nat} {y1 : Int32} {y2 : Int32} {k52 : AS → Option Nat → Int32 → Int32 → Int32 → Option (Int32 × AS)} {n52 : Nat} (hk52 : ∀ (S' : AS) (z0 : Option Nat) (z1 : Int32) (z2 : Int32) (z3 : Int32), Rl T kw_M109 S0 0 0 T S' → Tx T 100 z0 → In 0 5 z1 → In 0 60 z3 → (60 + 1 : Int) ≤ z3.toInt + (n52 : Int) → Ho (k52 S' z0 z1 z2 z3) (fun q => Rl T kw_M110 S0 0 0 T q.2 ∧ True)) (hm52 : (60 + 1 : Int) ≤ x3.toInt + ((n52 + 1 : Nat) : Int)) (h_x0 : Tx T 100 x0) (h_x1 : In 0 5 x1) (h_x3 : In 0 59 x3) (h_y0 : Tx T 125 y0) (h_y1 : In 0 59 y1) (h_y2 : In 0 2 y2) (hx_57_19 : In 1 60 (sI S 57 19)) (hfph0 : Ph S0 ≤ 1100) : Ho (f_M_leave_B94 k52 S x0 x1 x2 x3 y0 y1 y2) (fun q => Rl T kw_M110 S0 0 0 T q.2 ∧ True) := by
  unfold f_M_leave_B94
  refine r_bIs (w' := kw_M109) g h_y0 rfl (p := 80) rfl rfl (In_w h_y1 (by decide) (by decide) : In 0 59 y1) (by decide) (fun _ _ _ q => by cases q; exact (In_w h_y2 (by decide) (by decide))) (fun _ => rfl) (by decide) (by decide +kernel) (fun _ => by unfold phc; omega) (fun s1 g2 e3 => ?_)
  have f4 : In 1 60 (sI s1 57 19) := In_ne e3 (by omega) hx_57_19
  have f5 : In 0 2 (sI s1 80 y1.toNatClampNeg) := In_eqw e3 (In_w h_y2 (by decide) (by decide))
  refine r_val ?_
  generalize ei2 : (x3 + (1 : Int32)) = i2
  have qi2 : In 1 60 i2 := by rw [← ei2]; exact (In_w (In_add h_x3 (by decide : In 1 1 (1 : Int32)) (by decide) (by decide)) (by decide) (by decide) : In 1 60 (x3 + (1 : Int32)))
  exact hk52 s1 x0 x1 x2 i2 (Rlweak g2 (by decide +kernel) (by decide) (by decide)) h_x0 (In_w h_x1 (by decide) (by decide)) (In_w qi2 (by decide) (by decide))  (by rw [← ei2, toInt_add1 h_x3 (by decide) (by decide)]; omega)
theorem t_M_leave_B88_4t125 {T : Nat → Nat} {S0 S : AS} (g : Rl T kw_M109 S0 0 0 T S) {x0 : Option Nat} {x1 : Int32} {x2 : Int32} {x3 : Int32} {y0 : Option Nat} {y1 : Int32} {k52 : AS → Option Nat → Int32 → Int32 → Int32 → Option (Int32 × AS)} {n52 : Nat} (hk52 : ∀ (S' : AS) (z0 : Option Nat) (z1 : Int32) (z2 : Int32) (z3 : Int32), Rl T kw_M109 S0 0 0 T S' → Tx T 100 z0 → In 0 5 z1 → In 0 60 z3 → (60 + 1 : Int) ≤ z3.toInt + (n52 : Int) → Ho (k52 S' z0 z1 z2 z3) (fun q => Rl T kw_M110 S0 0 0 T q.2 ∧ True)) (hm52 : (60 + 1 : Int) ≤ x3.toInt + ((n52 + 1 : Nat) : Int)) (h_x0 : Tx T 100 x0) (h_x1 : In 0 5 x1) (h_x3 : In 0 59 x3) (h_y0 : Tx T 125 y0) (h_y1 : In 0 59 y1) (hx_57_19 : In 1 60 (sI S 57 19)) (hfph0 : Ph S0 ≤ 1100) : Ho (f_M_leave_B88 k52 S x0 x1 x2 x3 y0 y1) (fun q => Rl T kw_M110 S0 0 0 T q.2 ∧ True) := by
  unfold f_M_leave_B88
  refine r_gR g.1 h_x0 rfl rfl (fun v3 h1 => ?_)
  refine r_aIs g.1 h1 rfl (p := 80) rfl rfl (In_w h_x3 (by decide) (by decide) : In 0 59 x3) (by decide) (fun v4 b2 e3 => ?_)
  have q4 : In 0 2 v4 := b2 _ _ rfl
  exact t_M_leave_B94_4t125 (Rlweak g (by decide +kernel) (by decide) (by decide)) hk52 hm52 h_x0 (In_w h_x1 (by decide) (by decide)) (In_w h_x3 (by decide) (by decide)) h_y0 (In_w h_y1 (by decide) (by decide)) (In_w q4 (by decide) (by decide)) (In_w hx_57_19 (by decide) (by decide)) (Int.le_trans hfph0 (by decide))
theorem t_M_leave_B140_4t173_6c1 {T : Nat → Nat} {S0 S : AS} (g : Rl T kw_M110 S0 0 0 T S) {x0 : Option Nat} {x1 : Int32} {x2 : Int32} {x3 : Int32} {y0 : Option Nat} {y1 : Int32} {k103 : AS → Option Nat → Int32 → Int32 → Int32 → Option (Int32 × AS)} {n103 : Nat} (hk103 : ∀ (S' : AS) (z0 : Option Nat) (z1 : Int32) (z2 : Int32) (z3 : Int32), Rl T kw_M110 S0 0 0 T S' → Tx T 100 z0 → In 0 5 z1 → In 0 20 z3 → (20 + 1 : Int) ≤ z3.toInt + (n103 : Int) → Ho (k103 S' z0 z1 z2 z3) (fun q => Rl T kw_M110 S0 0 0 T q.2 ∧ True)) (hm103 : (20 + 1 : Int) ≤ x3.toInt + ((n103 + 1 : Nat) : Int)) (h_x0 : Tx T 100 x0) (h_x1 : In 0 5 x1) (h_x3 : In 0 19 x3) (h_y0 : Tx T 173 y0) (h_y1 : In 0 19 y1) (hx_57_70 : In 1 20 (sI S 57 70)) (hfph0 : Ph S0 ≤ 1100) : Ho (f_M_leave_B140 k103 S x0 x1 x2 x3 y0 y1 (1 : Int32)) (fun q => Rl T kw_M110 S0 0 0 T q.2 ∧ True) := by
  unfold f_M_leave_B140
  refine r_bZs (w' := kw_M110) g h_y0 rfl (p := 119) rfl rfl (In_w h_y1 (by decide) (by decide) : In 0 19 y1) (by decide) (In_w (by decide : In 1 1 (1 : Int32)) (by decide) (by decide)) (fun _ _ _ q => by cases q; exact (In_w (by decide : In 1 1 (1 : Int32)) (by decide) (by decide))) (fun _ => rfl) (by decide) (by decide +kernel) (fun _ => by unfold phc; omega) (fun s1 g2 e3 => ?_)
  have f4 : In 1 20 (sI s1 57 70) := In_ne e3 (by omega) hx_57_70
  have f5 : In 1 1 (sI s1 119 y1.toNatClampNeg) := In_eqw e3 (In_w (by decide : In 1 1 (1 : Int32)) (by decide) (by decide))
  refine r_val ?_
  generalize ei6 : (x3 + (1 : Int32)) = i6
  have qi6 : In 1 20 i6 := by rw [← ei6]; exact (In_w (In_add h_x3 (by decide : In 1 1 (1 : Int32)) (by decide) (by decide)) (by decide) (by decide) : In 1 20 (x3 + (1 : Int32)))
  exact hk103 s1 x0 x1 x2 i6 (Rlweak g2 (by decide +kernel) (by decide) (by decide)) h_x0 (In_w h_x1 (by decide) (by decide)) (In_w qi6 (by decide) (by decide))  (by rw [← ei6, toInt_add1 h_x3 (by decide) (by decide)]; omega)
theorem t_M_leave_B140_4t173_6c0 {T : Nat → Nat} {S0 S : AS} (g : Rl T kw_M110 S0 0 0 T S) {x0 : Option Nat} {x1 : Int32} {x2 : Int32} {x3 : Int32} {y0 : Option Nat} {y1 : Int32} {k103 : AS → Option Nat → Int32 → Int32 → Int32 → Option (Int32 × AS)} {n103 : Nat} (hk103 : ∀ (S' : AS) (z0 : Option Nat) (z1 : Int32) (z2 : Int32) (z3 : Int32), Rl T kw_M110 S0 0 0 T S' → Tx T 100 z0 → In 0 5 z1 → In 0 20 z3 → (20 + 1 : Int) ≤ z3.toInt + (n103 : Int) → Ho (k103 S' z0 z1 z2 z3) (fun q => Rl T kw_M110 S0 0 0 T q.2 ∧ True)) (hm103 : (20 + 1 : Int) ≤ x3.toInt + ((n103 + 1 : Nat) : Int)) (h_x0 : Tx T 100 x0) (h_x1 : In 0 5 x1) (h_x3 : In 0 19 x3) (h_y0 : Tx T 173 y0) (h_y1 : In 0 19 y1) (hx_57_70 : In 1 20 (sI S 57 70)) (hfph0 : Ph S0 ≤ 1100) : Ho (f_M_leave_B140 k103 S x0 x1 x2 x3 y0 y1 (0 : Int32)) (fun q => Rl T kw_M110 S0 0 0 T q.2 ∧ True) := by
  unfold f_M_leave_B140
  refine r_bZs (w' := kw_M110) g h_y0 rfl (p := 119) rfl rfl (In_w h_y1 (by decide) (by decide) : In 0 19 y1) (by decide) (In_w (by decide : In 0 0 (0 : Int32)) (by decide) (by decide)) (fun _ _ _ q => by cases q; exact (In_w (by decide : In 0 0 (0 : Int32)) (by decide) (by decide))) (fun _ => rfl) (by decide) (by decide +kernel) (fun _ => by unfold phc; omega) (fun s1 g2 e3 => ?_)
  have f4 : In 1 20 (sI s1 57 70) := In_ne e3 (by omega) hx_57_70
  have f5 : In 0 0 (sI s1 119 y1.toNatClampNeg) := In_eqw e3 (In_w (by decide : In 0 0 (0 : Int32)) (by decide) (by decide))
  refine r_val ?_
  generalize ei6 : (x3 + (1 : Int32)) = i6
  have qi6 : In 1 20 i6 := by rw [← ei6]; exact (In_w (In_add h_x3 (by decide : In 1 1 (1 : Int32)) (by decide) (by decide)) (by decide) (by decide) : In 1 20 (x3 + (1 : Int32)))
  exact hk103 s1 x0 x1 x2 i6 (Rlweak g2 (by decide +kernel) (by decide) (by decide)) h_x0 (In_w h_x1 (by decide) (by decide)) (In_w qi6 (by decide) (by decide))  (by rw [← ei6, toInt_add1 h_x3 (by decide) (by decide)]; omega)
theorem t_M_leave_B139_4t173 {T : Nat → Nat} {S0 S : AS} (g : Rl T kw_M110 S0 0 0 T S) {x0 : Option Nat} {x1 : Int32} {x2 : Int32} {x3 : Int32} {y0 : Option Nat} {y1 : Int32} {k103 : AS → Option Nat → Int32 → Int32 → Int32 → Option (Int32 × AS)} {n103 : Nat} (hk103 : ∀ (S' : AS) (z0 : Option Nat) (z1 : Int32) (z2 : Int32) (z3 : Int32), Rl T kw_M110 S0 0 0 T S' → Tx T 100 z0 → In 0 5 z1 → In 0 20 z3 → (20 + 1 : Int) ≤ z3.toInt + (n103 : Int) → Ho (k103 S' z0 z1 z2 z3) (fun q => Rl T kw_M110 S0 0 0 T q.2 ∧ True)) (hm103 : (20 + 1 : Int) ≤ x3.toInt + ((n103 + 1 : Nat) : Int)) (h_x0 : Tx T 100 x0) (h_x1 : In 0 5 x1) (h_x3 : In 0 19 x3) (h_y0 : Tx T 173 y0) (h_y1 : In 0 19 y1) (hx_57_70 : In 1 20 (sI S 57 70)) (hfph0 : Ph S0 ≤ 1100) : Ho (f_M_leave_B139 k103 S x0 x1 x2 x3 y0 y1) (fun q => Rl T kw_M110 S0 0 0 T q.2 ∧ True) := by
  unfold f_M_leave_B139
  exact t_M_leave_B140_4t173_6c0 (Rlweak g (by decide +kernel) (by decide) (by decide)) hk103 hm103 h_x0 (In_w h_x1 (by decide) (by decide)) (In_w h_x3 (by decide) (by decide)) h_y0 (In_w h_y1 (by decide) (by decide)) (In_w hx_57_70 (by decide) (by decide)) (Int.le_trans hfph0 (by decide))
theorem t_M_leave_C103 {T : Nat → Nat} {S0 S : AS} (g : Rl T kw_M110 S0 0 0 T S) {x0 : Option Nat} {x1 : Int32} {x2 : Int32} {x3 : Int32} {k103 : AS → Option Nat → Int32 → Int32 → Int32 → Option (Int32 × AS)} {n103 : Nat} (hk103 : ∀ (S' : AS) (z0 : Option Nat) (z1 : Int32) (z2 : Int32) (z3 : Int32), Rl T kw_M110 S0 0 0 T S' → Tx T 100 z0 → In 0 5 z1 → In 0 20 z3 → (20 + 1 : Int) ≤ z3.toInt + (n103 : Int) → Ho (k103 S' z0 z1 z2 z3) (fun q => Rl T kw_M110 S0 0 0 T q.2 ∧ True)) (hm103 : (20 + 1 : Int) ≤ x3.toInt + ((n103 + 1 : Nat) : Int)) (h_x0 : Tx T 100 x0) (h_x1 : In 0 5 x1) (h_x3 : In 0 20 x3) (hfph0 : Ph S0 ≤ 1100) : Ho (f_M_leave_C103 k103 S x0 x1 x2 x3) (fun q => Rl T kw_M110 S0 0 0 T q.2 ∧ True) := by
  unfold f_M_leave_C103
  refine r_gIs g.1 h_x0 rfl (p := 57) rfl (fun v7 b1 e2 => ?_)
  have q3 : In 0 20 v7 := b1 _ _ rfl
  refine r_if (fun c4 => ?_) (fun c4 => ?_)
  · exact r_some ⟨(Rlweak g (by decide +kernel) (by decide) (by decide)), trivial⟩
  · have q5 : In 0 19 x3 := In_w (In_lt1 (Int32.not_le.mp c4) h_x3 q3) (by decide) (by decide)
    have q6 : In 1 20 v7 := In_w (In_lt2 (Int32.not_le.mp c4) h_x3 q3) (by decide) (by decide)
    refine r_gR g.1 h_x0 rfl rfl (fun v8 h7 => ?_)
    refine r_gR g.1 h_x0 rfl rfl (fun v9 h8 => ?_)
    refine r_aIs g.1 h8 rfl (p := 119) rfl rfl (In_w q5 (by decide) (by decide) : In 0 19 x3) (by decide) (fun v10 b9 e10 => ?_)
    have q11 : In 0 1 v10 := b9 _ _ rfl
    refine r_if (fun c12 => ?_) (fun c12 => ?_)
    · have q13 : In 0 0 v10 := In_w (In_eq c12 (by decide : In 0 0 (0 : Int32))) (by decide) (by decide)
      exact t_M_leave_B139_4t173 (Rlweak g (by decide +kernel) (by decide) (by decide)) hk103 hm103 h_x0 (In_w h_x1 (by decide) (by decide)) (In_w q5 (by decide) (by decide)) h7 (In_w q5 (by decide) (by decide)) (In_w (In_cell e2 q6) (by decide) (by decide)) (Int.le_trans hfph0 (by decide))
    · have q14 : In 1 1 v10 := In_w (In_neL c12 q11 (by decide)) (by decide) (by decide)
      refine r_gR g.1 h_x0 rfl rfl (fun v11 h15 => ?_)
      refine r_aIs g.1 h15 rfl (p := 117) rfl rfl (In_w q5 (by decide) (by decide) : In 0 19 x3) (by decide) (fun v12 b16 e17 => ?_)
      have q18 : In 0 5 v12 := b16 _ _ rfl
      refine r_if (fun c19 => ?_) (fun c19 => ?_)
      · exact t_M_leave_B139_4t173 (Rlweak g (by decide +kernel) (by decide) (by decide)) hk103 hm103 h_x0 (In_w h_x1 (by decide) (by decide)) (In_w q5 (by decide) (by decide)) h7 (In_w q5 (by decide) (by decide)) (In_w (In_cell e2 q6) (by decide) (by decide)) (Int.le_trans hfph0 (by decide))
      · exact t_M_leave_B140_4t173_6c1 (Rlweak g (by decide +kernel) (by decide) (by decide)) hk103 hm103 h_x0 (In_w h_x1 (by decide) (by decide)) (In_w q5 (by decide) (by decide)) h7 (In_w q5 (by decide) (by decide)) (In_w (In_cell e2 q6) (by decide) (by decide)) (Int.le_trans hfph0 (by decide))
theorem t_M_leave_L103 {T : Nat → Nat} {S0 : AS} (hfph0 : Ph S0 ≤ 1100) : ∀ (n : Nat) (S : AS) (x0 : Option Nat) (x1 : Int32) (x2 : Int32) (x3 : Int32), Rl T kw_M110 S0 0 0 T S → Tx T 100 x0 → In 0 5 x1 → In 0 20 x3 → (20 + 1 : Int) ≤ x3.toInt + (n : Int) → Ho (f_M_leave_L103  n S x0 x1 x2 x3) (fun q => Rl T kw_M110 S0 0 0 T q.2 ∧ True) := by
  intro n
  induction n with
  | zero =>
    intro S x0 x1 x2 x3 g h_x0 h_x1 h_x3 hm
    exact absurd hm (by have := h_x3.2; omega)
  | succ n ih =>
    intro S x0 x1 x2 x3 g h_x0 h_x1 h_x3 hm
    exact t_M_leave_C103 g  (fun S' z0 z1 z2 z3 g' a_h_x0 a_h_x1 a_h_x3 am => ih S' z0 z1 z2 z3 g' a_h_x0 a_h_x1 a_h_x3 am) hm h_x0 h_x1 h_x3 hfph0
theorem t_M_leave_C52 {T : Nat → Nat} {S0 S : AS} (g : Rl T kw_M109 S0 0 0 T S) {x0 : Option Nat} {x1 : Int32} {x2 : Int32} {x3 : Int32} {k52 : AS → Option Nat → Int32 → Int32 → Int32 → Option (Int32 × AS)} {n52 : Nat} (hk52 : ∀ (S' : AS) (z0 : Option Nat) (z1 : Int32) (z2 : Int32) (z3 : Int32), Rl T kw_M109 S0 0 0 T S' → Tx T 100 z0 → In 0 5 z1 → In 0 60 z3 → (60 + 1 : Int) ≤ z3.toInt + (n52 : Int) → Ho (k52 S' z0 z1 z2 z3) (fun q => Rl T kw_M110 S0 0 0 T q.2 ∧ True)) (hm52 : (60 + 1 : Int) ≤ x3.toInt + ((n52 + 1 : Nat) : Int)) (h_x0 : Tx T 100 x0) (h_x1 : In 0 5 x1) (h_x3 : In 0 60 x3) (hfph0 : Ph S0 ≤ 1100) : Ho (f_M_leave_C52 k52 S x0 x1 x2 x3) (fun q => Rl T kw_M110 S0 0 0 T q.2 ∧ True) := by
  unfold f_M_leave_C52
  refine r_gIs g.1 h_x0 rfl (p := 57) rfl (fun v13 b1 e2 => ?_)
  have q3 : In 0 60 v13 := b1 _ _ rfl
  refine r_if (fun c4 => ?_) (fun c4 => ?_)
  · exact t_M_leave_L103  (Int.le_trans hfph0 (by decide)) kr_FU S x0 x1 x2 (0 : Int32) (Rlweak g (by decide +kernel) (by decide) (by decide)) h_x0 (In_w h_x1 (by decide) (by decide)) (In_w (by decide : In 0 0 (0 : Int32)) (by decide) (by decide))  (by decide)
  · have q5 : In 0 59 x3 := In_w (In_lt1 (Int32.not_le.mp c4) h_x3 q3) (by decide) (by decide)
    have q6 : In 1 60 v13 := In_w (In_lt2 (Int32.not_le.mp c4) h_x3 q3) (by decide) (by decide)
    refine r_gR g.1 h_x0 rfl rfl (fun v14 h7 => ?_)
    refine r_gR g.1 h_x0 rfl rfl (fun v15 h8 => ?_)
    refine r_aIs g.1 h8 rfl (p := 75) rfl rfl (In_w q5 (by decide) (by decide) : In 0 59 x3) (by decide) (fun v16 b9 e10 => ?_)
    have q11 : In 0 5 v16 := b9 _ _ rfl
    refine r_if (fun c12 => ?_) (fun c12 => ?_)
    · refine r_gR g.1 h_x0 rfl rfl (fun v17 h13 => ?_)
      refine r_aIs g.1 h13 rfl (p := 80) rfl rfl (In_w q5 (by decide) (by decide) : In 0 59 x3) (by decide) (fun v18 b14 e15 => ?_)
      have q16 : In 0 2 v18 := b14 _ _ rfl
      refine r_if (fun c17 => ?_) (fun c17 => ?_)
      · have q18 : In 0 0 v18 := In_w (In_eq c17 (by decide : In 0 0 (0 : Int32))) (by decide) (by decide)
        exact t_M_leave_B94_4t125_6c2 (Rlweak g (by decide +kernel) (by decide) (by decide)) hk52 hm52 h_x0 (In_w h_x1 (by decide) (by decide)) (In_w q5 (by decide) (by decide)) h7 (In_w q5 (by decide) (by decide)) (In_w (In_cell e2 q6) (by decide) (by decide)) (Int.le_trans hfph0 (by decide))
      · have q19 : In 1 2 v18 := In_w (In_neL c17 q16 (by decide)) (by decide) (by decide)
        exact t_M_leave_B88_4t125 (Rlweak g (by decide +kernel) (by decide) (by decide)) hk52 hm52 h_x0 (In_w h_x1 (by decide) (by decide)) (In_w q5 (by decide) (by decide)) h7 (In_w q5 (by decide) (by decide)) (In_w (In_cell e2 q6) (by decide) (by decide)) (Int.le_trans hfph0 (by decide))
    · exact t_M_leave_B88_4t125 (Rlweak g (by decide +kernel) (by decide) (by decide)) hk52 hm52 h_x0 (In_w h_x1 (by decide) (by decide)) (In_w q5 (by decide) (by decide)) h7 (In_w q5 (by decide) (by decide)) (In_w (In_cell e2 q6) (by decide) (by decide)) (Int.le_trans hfph0 (by decide))
theorem t_M_leave_L52 {T : Nat → Nat} {S0 : AS} (hfph0 : Ph S0 ≤ 1100) : ∀ (n : Nat) (S : AS) (x0 : Option Nat) (x1 : Int32) (x2 : Int32) (x3 : Int32), Rl T kw_M109 S0 0 0 T S → Tx T 100 x0 → In 0 5 x1 → In 0 60 x3 → (60 + 1 : Int) ≤ x3.toInt + (n : Int) → Ho (f_M_leave_L52  n S x0 x1 x2 x3) (fun q => Rl T kw_M110 S0 0 0 T q.2 ∧ True) := by
  intro n
  induction n with
  | zero =>
    intro S x0 x1 x2 x3 g h_x0 h_x1 h_x3 hm
    exact absurd hm (by have := h_x3.2; omega)
  | succ n ih =>
    intro S x0 x1 x2 x3 g h_x0 h_x1 h_x3 hm
    exact t_M_leave_C52 g  (fun S' z0 z1 z2 z3 g' a_h_x0 a_h_x1 a_h_x3 am => ih S' z0 z1 z2 z3 g' a_h_x0 a_h_x1 a_h_x3 am) hm h_x0 h_x1 h_x3 hfph0
theorem t_M_leave_B32_2t107_4c1 {T : Nat → Nat} {S0 S : AS} (g : Rl T kw_M4 S0 0 0 T S) {x0 : Option Nat} {x1 : Int32} {y0 : Option Nat} {y1 : Int32} (h_x0 : Tx T 100 x0) (h_x1 : In 0 5 x1) (h_y0 : Tx T 107 y0) (h_y1 : In 0 5 y1) (hfph0 : Ph S0 ≤ 1100) : Ho (f_M_leave_B32  S x0 x1 y0 y1 (1 : Int32)) (fun q => Rl T kw_M110 S0 0 0 T q.2 ∧ True) := by
  unfold f_M_leave_B32
  refine r_bZs (w' := kw_M107) g h_y0 rfl (p := 64) rfl rfl (In_w h_y1 (by decide) (by decide) : In 0 5 y1) (by decide) (In_w (by decide : In 1 1 (1 : Int32)) (by decide) (by decide)) (fun _ _ _ q => by cases q; exact (In_w (by decide : In 1 1 (1 : Int32)) (by decide) (by decide))) (fun _ => rfl) (by decide) (by decide +kernel) (fun _ => by unfold phc; omega) (fun s1 g2 e3 => ?_)
  have f4 : In 1 1 (sI s1 64 y1.toNatClampNeg) := In_eqw e3 (In_w (by decide : In 1 1 (1 : Int32)) (by decide) (by decide))
  refine r_gR g2.1 h_x0 rfl rfl (fun v20 h5 => ?_)
  refine r_aIs g2.1 h5 rfl (p := 64) rfl rfl (In_w h_x1 (by decide) (by decide) : In 0 5 x1) (by decide) (fun v21 b6 e7 => ?_)
  have q8 : In 0 1 v21 := b6 _ _ rfl
  refine r_if (fun c9 => ?_) (fun c9 => ?_)
  · have q10 : In 0 0 v21 := In_w (In_eq c9 (by decide : In 0 0 (0 : Int32))) (by decide) (by decide)
    exact r_some ⟨(Rlweak g2 (by decide +kernel) (by decide) (by decide)), trivial⟩
  · have q11 : In 1 1 v21 := In_w (In_neL c9 q8 (by decide)) (by decide) (by decide)
    refine r_rv g2.1 h_x0 rfl ?_
    refine r_b2 (t_M_endAllOf g2.1 h_x0 (phS hfph0 g2 (by decide))) (fun v24 s13 h12 => ?_)
    obtain ⟨g14, h12r⟩ := h12
    have g15 : Rl T kw_M108 S0 0 0 T s13 := Rltrans g2 g14 (by decide +kernel)
    have f16 : In 1 1 (sI s13 64 y1.toNatClampNeg) := In_fr g14 h_x0 (j := 7) rfl rfl (by decide) (by decide +kernel) f4
    have f17 : In 1 1 (sI s13 64 x1.toNatClampNeg) := In_fr g14 h_x0 (j := 7) rfl rfl (by decide) (by decide +kernel) (In_cell e7 q11)
    exact t_M_leave_L52  (Int.le_trans hfph0 (by decide)) kr_FU s13 x0 x1 v24 (0 : Int32) (Rlweak g15 (by decide +kernel) (by decide) (by decide)) h_x0 (In_w h_x1 (by decide) (by decide)) (In_w (by decide : In 0 0 (0 : Int32)) (by decide) (by decide))  (by decide)
theorem t_M_leave_B32_2t107_4c0 {T : Nat → Nat} {S0 S : AS} (g : Rl T kw_M4 S0 0 0 T S) {x0 : Option Nat} {x1 : Int32} {y0 : Option Nat} {y1 : Int32} (h_x0 : Tx T 100 x0) (h_x1 : In 0 5 x1) (h_y0 : Tx T 107 y0) (h_y1 : In 0 5 y1) (hfph0 : Ph S0 ≤ 1100) : Ho (f_M_leave_B32  S x0 x1 y0 y1 (0 : Int32)) (fun q => Rl T kw_M110 S0 0 0 T q.2 ∧ True) := by
  unfold f_M_leave_B32
  refine r_bZs (w' := kw_M107) g h_y0 rfl (p := 64) rfl rfl (In_w h_y1 (by decide) (by decide) : In 0 5 y1) (by decide) (In_w (by decide : In 0 0 (0 : Int32)) (by decide) (by decide)) (fun _ _ _ q => by cases q; exact (In_w (by decide : In 0 0 (0 : Int32)) (by decide) (by decide))) (fun _ => rfl) (by decide) (by decide +kernel) (fun _ => by unfold phc; omega) (fun s1 g2 e3 => ?_)
  have f4 : In 0 0 (sI s1 64 y1.toNatClampNeg) := In_eqw e3 (In_w (by decide : In 0 0 (0 : Int32)) (by decide) (by decide))
  refine r_gR g2.1 h_x0 rfl rfl (fun v20 h5 => ?_)
  refine r_aIs g2.1 h5 rfl (p := 64) rfl rfl (In_w h_x1 (by decide) (by decide) : In 0 5 x1) (by decide) (fun v21 b6 e7 => ?_)
  have q8 : In 0 1 v21 := b6 _ _ rfl
  refine r_if (fun c9 => ?_) (fun c9 => ?_)
  · have q10 : In 0 0 v21 := In_w (In_eq c9 (by decide : In 0 0 (0 : Int32))) (by decide) (by decide)
    exact r_some ⟨(Rlweak g2 (by decide +kernel) (by decide) (by decide)), trivial⟩
  · have q11 : In 1 1 v21 := In_w (In_neL c9 q8 (by decide)) (by decide) (by decide)
    refine r_rv g2.1 h_x0 rfl ?_
    refine r_b2 (t_M_endAllOf g2.1 h_x0 (phS hfph0 g2 (by decide))) (fun v24 s13 h12 => ?_)
    obtain ⟨g14, h12r⟩ := h12
    have g15 : Rl T kw_M108 S0 0 0 T s13 := Rltrans g2 g14 (by decide +kernel)
    have f16 : In 0 0 (sI s13 64 y1.toNatClampNeg) := In_fr g14 h_x0 (j := 7) rfl rfl (by decide) (by decide +kernel) f4
    have f17 : In 1 1 (sI s13 64 x1.toNatClampNeg) := In_fr g14 h_x0 (j := 7) rfl rfl (by decide) (by decide +kernel) (In_cell e7 q11)
    exact t_M_leave_L52  (Int.le_trans hfph0 (by decide)) kr_FU s13 x0 x1 v24 (0 : Int32) (Rlweak g15 (by decide +kernel) (by decide) (by decide)) h_x0 (In_w h_x1 (by decide) (by decide)) (In_w (by decide : In 0 0 (0 : Int32)) (by decide) (by decide))  (by decide)
theorem t_M_leave {T : Nat → Nat} {S : AS} (hT : TI T S) {a0 : Option Nat} {a1 : Int32} (h_a0 : Tx T 100 a0) (hfph0 : Ph S ≤ 1100) : Ho (f_M_leave  S a0 a1) (fun q => Rl T kw_M110 S 0 0 T q.2 ∧ True) := by
  have g0 := Rlrf hT
  unfold f_M_leave
  refine r_spl (u_isSix _ _) (fun q1 => ?_) ?_
  · have q2 : In 0 5 a1 := In_w q1 (by decide) (by decide)
    refine r_rv g0.1 h_a0 rfl ?_
    refine r_may (w' := kw_M4) g0 h_a0 (In_w (by decide : In 1 1 (1 : Int32)) (by decide) (by decide)) (by decide +kernel) (fun s3 g4 g4e c5 => ?_) (fun s3 g4 g4e => ?_)
    · refine r_ifF (by decide) ?_
      refine r_gR g4.1 h_a0 rfl rfl (fun v30 h6 => ?_)
      refine r_gR g4.1 h_a0 rfl rfl (fun v31 h7 => ?_)
      refine r_aIs g4.1 h7 rfl (p := 64) rfl rfl (In_w q2 (by decide) (by decide) : In 0 5 a1) (by decide) (fun v32 b8 e9 => ?_)
      have q10 : In 0 1 v32 := b8 _ _ rfl
      refine r_if (fun c11 => ?_) (fun c11 => ?_)
      · have q12 : In 0 0 v32 := In_w (In_eq c11 (by decide : In 0 0 (0 : Int32))) (by decide) (by decide)
        exact t_M_leave_B32_2t107_4c1 (Rlweak g4 (by decide +kernel) (by decide) (by decide))  h_a0 (In_w q2 (by decide) (by decide)) h6 (In_w q2 (by decide) (by decide)) (Int.le_trans hfph0 (by decide))
      · have q13 : In 1 1 v32 := In_w (In_neL c11 q10 (by decide)) (by decide) (by decide)
        exact t_M_leave_B32_2t107_4c0 (Rlweak g4 (by decide +kernel) (by decide) (by decide))  h_a0 (In_w q2 (by decide) (by decide)) h6 (In_w q2 (by decide) (by decide)) (Int.le_trans hfph0 (by decide))
    · refine r_ifT (by decide) ?_
      exact r_some ⟨(Rlweak g4 (by decide +kernel) (by decide) (by decide)), trivial⟩
  · refine r_rv g0.1 h_a0 rfl ?_
    refine r_may (w' := kw_M4) g0 h_a0 (In_w (by decide : In 0 0 (0 : Int32)) (by decide) (by decide)) (by decide +kernel) (fun s14 g15 g15e c16 => ?_) (fun s14 g15 g15e => ?_)
    · exact absurd rfl c16
    · refine r_ifT (by decide) ?_
      exact r_some ⟨(Rlweak g15 (by decide +kernel) (by decide) (by decide)), trivial⟩
theorem t_M_audits {T : Nat → Nat} {S : AS} (hT : TI T S) {a0 : Option Nat} (h_a0 : Tx T 100 a0) : Ho (f_M_audits  S a0) (fun q => Rl T kw_M4 S 0 0 T q.2 ∧ In 0 1200 q.1) := by
  have g0 := Rlrf hT
  unfold f_M_audits
  refine r_pIs (w' := kw_M4) g0 h_a0 (fun _ _ q => by cases q) (by decide +kernel) (by unfold phc; decide) (fun s1 g2 e3 => ?_)
  have f4 : In 0 0 (sI s1 57 82) := In_eqw e3 (In_w (by decide : In 0 0 (0 : Int32)) (by decide) (by decide))
  refine r_gIs g2.1 h_a0 rfl (p := 57) rfl (fun v2 b5 e6 => ?_)
  have q7 : In 0 1200 v2 := b5 _ _ rfl
  exact r_some ⟨(Rlweak g2 (by decide +kernel) (by decide) (by decide)), (In_w q7 (by decide) (by decide))⟩
theorem t_M_audit {T : Nat → Nat} {S : AS} (hT : TI T S) {a0 : Option Nat} {a1 : Int32} (h_a0 : Tx T 100 a0) : Ho (f_M_audit  S a0 a1) (fun q => Rl T kw_M4 S 0 0 T q.2 ∧ True) := by
  have g0 := Rlrf hT
  unfold f_M_audit
  refine r_gIs g0.1 h_a0 rfl (p := 57) rfl (fun v1 b1 e2 => ?_)
  have q3 : In 0 1200 v1 := b1 _ _ rfl
  refine r_Mi (fun p4 p4b => ?_) ?_
  · have q5 : In 0 2147483647 a1 := In_w (In_le2 p4 (by decide : In 0 0 (0 : Int32)) (In_top a1)) (by decide) (by decide)
    have q6 : In 0 1199 a1 := In_w (In_le1 p4b q5 (In_w (In_sub q3 (by decide : In 1 1 (1 : Int32)) (by decide) (by decide)) (by decide) (by decide) : In (-1) 1199 (v1 - (1 : Int32)))) (by decide) (by decide)
    refine r_rv g0.1 h_a0 rfl ?_
    refine r_may (w' := kw_M4) g0 h_a0 (In_w (by decide : In 1 1 (1 : Int32)) (by decide) (by decide)) (by decide +kernel) (fun s7 g8 g8e c9 => ?_) (fun s7 g8 g8e => ?_)
    · refine r_ifF (by decide) ?_
      refine r_gR g8.1 h_a0 rfl rfl (fun v7 h10 => ?_)
      refine r_aIs g8.1 h10 rfl (p := 123) rfl rfl (In_w q6 (by decide) (by decide) : In 0 1199 a1) (by decide) (fun v8 b11 e12 => ?_)
      refine r_gR g8.1 h_a0 rfl rfl (fun v9 h13 => ?_)
      refine r_aIs g8.1 h13 rfl (p := 124) rfl rfl (In_w q6 (by decide) (by decide) : In 0 1199 a1) (by decide) (fun v10 b14 e15 => ?_)
      exact r_some ⟨(Rlweak g8 (by decide +kernel) (by decide) (by decide)), trivial⟩
    · refine r_ifT (by decide) ?_
      exact r_some ⟨(Rlweak g8 (by decide +kernel) (by decide) (by decide)), trivial⟩
  · refine r_rv g0.1 h_a0 rfl ?_
    refine r_may (w' := kw_M4) g0 h_a0 (In_w (by decide : In 0 0 (0 : Int32)) (by decide) (by decide)) (by decide +kernel) (fun s16 g17 g17e c18 => ?_) (fun s16 g17 g17e => ?_)
    · exact absurd rfl c18
    · refine r_ifT (by decide) ?_
      exact r_some ⟨(Rlweak g17 (by decide +kernel) (by decide) (by decide)), trivial⟩
theorem t_M_sum {T : Nat → Nat} {S : AS} (hT : TI T S) {a0 : Option Nat} (h_a0 : Tx T 100 a0) : Ho (f_M_sum  S a0) (fun q => Rl T kw_M4 S 0 0 T q.2 ∧ True) := by
  have g0 := Rlrf hT
  unfold f_M_sum
  refine r_pIs (w' := kw_M4) g0 h_a0 (fun _ _ q => by cases q) (by decide +kernel) (by unfold phc; decide) (fun s1 g2 e3 => ?_)
  have f4 : In 0 0 (sI s1 57 82) := In_eqw e3 (In_w (by decide : In 0 0 (0 : Int32)) (by decide) (by decide))
  refine r_gIs g2.1 h_a0 rfl (p := 57) rfl (fun v2 b5 e6 => ?_)
  exact r_some ⟨(Rlweak g2 (by decide +kernel) (by decide) (by decide)), trivial⟩
theorem t_M_sumAnew_C23 {T : Nat → Nat} {S0 S : AS} (g : Rl T kw_M4 S0 0 0 T S) {x0 : Option Nat} {x1 : Int32} {x2 : Int32} {x3 : Int32} {k23 : AS → Option Nat → Int32 → Int32 → Int32 → Option (Int32 × AS)} {n23 : Nat} (hk23 : ∀ (S' : AS) (z0 : Option Nat) (z1 : Int32) (z2 : Int32) (z3 : Int32), Rl T kw_M4 S0 0 0 T S' → Tx T 100 z0 → In 0 1200 z1 → In 0 1200 z3 → (1200 + 1 : Int) ≤ z3.toInt + (n23 : Int) → Ho (k23 S' z0 z1 z2 z3) (fun q => Rl T kw_M4 S0 0 0 T q.2 ∧ True)) (hm23 : (1200 + 1 : Int) ≤ x3.toInt + ((n23 + 1 : Nat) : Int)) (h_x0 : Tx T 100 x0) (h_x1 : In 0 1200 x1) (h_x3 : In 0 1200 x3) : Ho (f_M_sumAnew_C23 k23 S x0 x1 x2 x3) (fun q => Rl T kw_M4 S0 0 0 T q.2 ∧ True) := by
  unfold f_M_sumAnew_C23
  refine r_if (fun c1 => ?_) (fun c1 => ?_)
  · exact r_some ⟨(Rlweak g (by decide +kernel) (by decide) (by decide)), trivial⟩
  · have q2 : In 0 1199 x3 := In_w (In_lt1 (Int32.not_le.mp c1) h_x3 h_x1) (by decide) (by decide)
    have q3 : In 1 1200 x1 := In_w (In_lt2 (Int32.not_le.mp c1) h_x3 h_x1) (by decide) (by decide)
    refine r_gR g.1 h_x0 rfl rfl (fun v1 h4 => ?_)
    refine r_aIs g.1 h4 rfl (p := 123) rfl rfl (In_w q2 (by decide) (by decide) : In 0 1199 x3) (by decide) (fun v2 b5 e6 => ?_)
    refine r_gR g.1 h_x0 rfl rfl (fun v3 h7 => ?_)
    refine r_aIs g.1 h7 rfl (p := 124) rfl rfl (In_w q2 (by decide) (by decide) : In 0 1199 x3) (by decide) (fun v4 b8 e9 => ?_)
    refine r_gR g.1 h_x0 rfl rfl (fun v5 h10 => ?_)
    refine r_aIs g.1 h10 rfl (p := 125) rfl rfl (In_w q2 (by decide) (by decide) : In 0 1199 x3) (by decide) (fun v6 b11 e12 => ?_)
    refine r_val ?_
    generalize ei7 : (((((31 : Int32) * x2) + ((100 : Int32) * v2)) + v4) + v6) = i7
    refine r_val ?_
    generalize ei8 : (i7 - i7 / (65521 : Int32) * (65521 : Int32)) = i8
    refine r_val ?_
    generalize ei9 : (x3 + (1 : Int32)) = i9
    have qi9 : In 1 1200 i9 := by rw [← ei9]; exact (In_w (In_add q2 (by decide : In 1 1 (1 : Int32)) (by decide) (by decide)) (by decide) (by decide) : In 1 1200 (x3 + (1 : Int32)))
    exact hk23 S x0 x1 i8 i9 (Rlweak g (by decide +kernel) (by decide) (by decide)) h_x0 (In_w q3 (by decide) (by decide)) (In_w qi9 (by decide) (by decide))  (by rw [← ei9, toInt_add1 q2 (by decide) (by decide)]; omega)
theorem t_M_sumAnew_L23 {T : Nat → Nat} {S0 : AS} : ∀ (n : Nat) (S : AS) (x0 : Option Nat) (x1 : Int32) (x2 : Int32) (x3 : Int32), Rl T kw_M4 S0 0 0 T S → Tx T 100 x0 → In 0 1200 x1 → In 0 1200 x3 → (1200 + 1 : Int) ≤ x3.toInt + (n : Int) → Ho (f_M_sumAnew_L23  n S x0 x1 x2 x3) (fun q => Rl T kw_M4 S0 0 0 T q.2 ∧ True) := by
  intro n
  induction n with
  | zero =>
    intro S x0 x1 x2 x3 g h_x0 h_x1 h_x3 hm
    exact absurd hm (by have := h_x3.2; omega)
  | succ n ih =>
    intro S x0 x1 x2 x3 g h_x0 h_x1 h_x3 hm
    exact t_M_sumAnew_C23 g  (fun S' z0 z1 z2 z3 g' a_h_x0 a_h_x1 a_h_x3 am => ih S' z0 z1 z2 z3 g' a_h_x0 a_h_x1 a_h_x3 am) hm h_x0 h_x1 h_x3 
theorem t_M_sumAnew {T : Nat → Nat} {S : AS} (hT : TI T S) {a0 : Option Nat} {a1 : Int32} (h_a0 : Tx T 100 a0) : Ho (f_M_sumAnew  S a0 a1) (fun q => Rl T kw_M4 S 0 0 T q.2 ∧ True) := by
  have g0 := Rlrf hT
  unfold f_M_sumAnew
  refine r_gIs g0.1 h_a0 rfl (p := 57) rfl (fun v10 b1 e2 => ?_)
  have q3 : In 0 1200 v10 := b1 _ _ rfl
  refine r_Mi (fun p4 p4b => ?_) ?_
  · have q5 : In 0 2147483647 a1 := In_w (In_le2 p4 (by decide : In 0 0 (0 : Int32)) (In_top a1)) (by decide) (by decide)
    have q6 : In 0 1200 a1 := In_w (In_le1 p4b q5 q3) (by decide) (by decide)
    refine r_rv g0.1 h_a0 rfl ?_
    refine r_may (w' := kw_M4) g0 h_a0 (In_w (by decide : In 1 1 (1 : Int32)) (by decide) (by decide)) (by decide +kernel) (fun s7 g8 g8e c9 => ?_) (fun s7 g8 g8e => ?_)
    · refine r_ifF (by decide) ?_
      exact t_M_sumAnew_L23   kr_FU s7 a0 a1 (7 : Int32) (0 : Int32) (Rlweak g8 (by decide +kernel) (by decide) (by decide)) h_a0 (In_w q6 (by decide) (by decide)) (In_w (by decide : In 0 0 (0 : Int32)) (by decide) (by decide))  (by decide)
    · refine r_ifT (by decide) ?_
      exact r_some ⟨(Rlweak g8 (by decide +kernel) (by decide) (by decide)), trivial⟩
  · refine r_rv g0.1 h_a0 rfl ?_
    refine r_may (w' := kw_M4) g0 h_a0 (In_w (by decide : In 0 0 (0 : Int32)) (by decide) (by decide)) (by decide +kernel) (fun s10 g11 g11e c12 => ?_) (fun s10 g11 g11e => ?_)
    · exact absurd rfl c12
    · refine r_ifT (by decide) ?_
      exact r_some ⟨(Rlweak g11 (by decide +kernel) (by decide) (by decide)), trivial⟩
theorem tR_M_grant_C45 {T : Nat → Nat} {S0 S : AS} (g : Rl T kw_M113 S0 0 0 T S) {x0 : Option Nat} {x1 : Int32} {x2 : Int32} {x3 : Int32} {k45 : AS → Option Nat → Int32 → Int32 → Int32 → Option AS} {n45 : Nat} (hk45 : ∀ (S' : AS) (z0 : Option Nat) (z1 : Int32) (z2 : Int32) (z3 : Int32), Rl T kw_M113 S0 0 0 T S' → Tx T 100 z0 → In 0 59 z1 → In 0 5 z2 → In 0 3 z3 → In 0 59 (sI S' 83 z1.toNatClampNeg) → (3 + 1 : Int) ≤ z3.toInt + (n45 : Int) → Ho (k45 S' z0 z1 z2 z3) (fun q => Rl T kw_M115 S0 0 0 T q)) (hm45 : (3 + 1 : Int) ≤ x3.toInt + ((n45 + 1 : Nat) : Int)) (h_x0 : Tx T 100 x0) (h_x1 : In 0 59 x1) (h_x2 : In 0 5 x2) (h_x3 : In 0 3 x3) (hx_83_x1 : In 0 59 (sI S 83 x1.toNatClampNeg)) : Ho (f_M_grant_C45 k45 S x0 x1 x2 x3) (fun q => Rl T kw_M115 S0 0 0 T q) := by
  unfold f_M_grant_C45
  refine r_if (fun c1 => ?_) (fun c1 => ?_)
  · have q2 : In 3 3 x3 := In_w (In_le2 c1 (by decide : In 3 3 (3 : Int32)) h_x3) (by decide) (by decide)
    refine r_gR g.1 h_x0 rfl rfl (fun v1 h3 => ?_)
    refine r_gR g.1 h_x0 rfl rfl (fun v2 h4 => ?_)
    refine r_aIs g.1 h4 rfl (p := 76) rfl rfl (In_w h_x1 (by decide) (by decide) : In 0 59 x1) (by decide) (fun v3 b5 e6 => ?_)
    have q7 : In 0 5 v3 := b5 _ _ rfl
    refine r_bZs (w' := kw_M114) g h3 rfl (p := 62) rfl rfl (In_w (In_w (In_add (In_w (In_mulc (k := 6) h_x2 (by decide) (by decide) (by decide) (by decide)) (by decide) (by decide) : In 0 30 ((6 : Int32) * x2)) q7 (by decide) (by decide)) (by decide) (by decide) : In 0 35 (((6 : Int32) * x2) + v3)) (by decide) (by decide) : In 0 35 (((6 : Int32) * x2) + v3)) (by decide) (In_w (by decide : In 1 1 (1 : Int32)) (by decide) (by decide)) (fun _ _ _ q => by cases q; exact (In_w (by decide : In 1 1 (1 : Int32)) (by decide) (by decide))) (fun _ => rfl) (by decide) (by decide +kernel) (fun _ => by unfold phc; omega) (fun s8 g9 e10 => ?_)
    have f11 : In 0 59 (sI s8 83 x1.toNatClampNeg) := In_ne e10 (by omega) hx_83_x1
    have f12 : In 1 1 (sI s8 62 (((6 : Int32) * x2) + v3).toNatClampNeg) := In_eqw e10 (In_w (by decide : In 1 1 (1 : Int32)) (by decide) (by decide))
    refine r_gR g9.1 h_x0 rfl rfl (fun v5 h13 => ?_)
    refine r_gR g9.1 h_x0 rfl rfl (fun v6 h14 => ?_)
    refine r_aIs g9.1 h14 rfl (p := 77) rfl rfl (In_w h_x1 (by decide) (by decide) : In 0 59 x1) (by decide) (fun v7 b15 e16 => ?_)
    have q17 : In 0 5 v7 := b15 _ _ rfl
    refine r_bZs (w' := kw_M115) g9 h13 rfl (p := 63) rfl rfl (In_w (In_w (In_add (In_w (In_mulc (k := 6) h_x2 (by decide) (by decide) (by decide) (by decide)) (by decide) (by decide) : In 0 30 ((6 : Int32) * x2)) q17 (by decide) (by decide)) (by decide) (by decide) : In 0 35 (((6 : Int32) * x2) + v7)) (by decide) (by decide) : In 0 35 (((6 : Int32) * x2) + v7)) (by decide) (In_w (by decide : In 1 1 (1 : Int32)) (by decide) (by decide)) (fun _ _ _ q => by cases q; exact (In_w (by decide : In 1 1 (1 : Int32)) (by decide) (by decide))) (fun _ => rfl) (by decide) (by decide +kernel) (fun _ => by unfold phc; omega) (fun s18 g19 e20 => ?_)
    have f21 : In 0 59 (sI s18 83 x1.toNatClampNeg) := In_ne e20 (by omega) f11
    have f22 : In 1 1 (sI s18 62 (((6 : Int32) * x2) + v3).toNatClampNeg) := In_ne e20 (by omega) f12
    have f23 : In 1 1 (sI s18 63 (((6 : Int32) * x2) + v7).toNatClampNeg) := In_eqw e20 (In_w (by decide : In 1 1 (1 : Int32)) (by decide) (by decide))
    exact r_some (Rlweak g19 (by decide +kernel) (by decide) (by decide))
  · have q24 : In 0 2 x3 := In_w (In_lt1 (Int32.not_le.mp c1) h_x3 (by decide : In 3 3 (3 : Int32))) (by decide) (by decide)
    refine r_gR g.1 h_x0 rfl rfl (fun v9 h25 => ?_)
    refine r_gR g.1 h_x0 rfl rfl (fun v10 h26 => ?_)
    refine r_aIs g.1 h26 rfl (p := 83) rfl rfl (In_w h_x1 (by decide) (by decide) : In 0 59 x1) (by decide) (fun v11 b27 e28 => ?_)
    have q29 : In (-1) 59 v11 := b27 _ _ rfl
    have q30 : In 0 59 v11 := In_w (In_read e28 hx_83_x1) (by decide) (by decide)
    refine r_gR g.1 h_x0 rfl rfl (fun v12 h31 => ?_)
    refine r_aIs g.1 h31 rfl (p := 84) rfl rfl (In_w (In_w (In_add (In_w (In_mulc (k := 3) h_x1 (by decide) (by decide) (by decide) (by decide)) (by decide) (by decide) : In 0 177 ((3 : Int32) * x1)) q24 (by decide) (by decide)) (by decide) (by decide) : In 0 179 (((3 : Int32) * x1) + x3)) (by decide) (by decide) : In 0 179 (((3 : Int32) * x1) + x3)) (by decide) (fun v13 b32 e33 => ?_)
    refine r_bIs (w' := kw_M113) g h25 rfl (p := 90) rfl rfl (In_w (In_w (In_add (In_w (In_mulc (k := 3) q30 (by decide) (by decide) (by decide) (by decide)) (by decide) (by decide) : In 0 177 ((3 : Int32) * v11)) q24 (by decide) (by decide)) (by decide) (by decide) : In 0 179 (((3 : Int32) * v11) + x3)) (by decide) (by decide) : In 0 179 (((3 : Int32) * v11) + x3)) (by decide) (fun _ _ _ q => by cases q) (fun _ => rfl) (by decide) (by decide +kernel) (fun _ => by unfold phc; omega) (fun s34 g35 e36 => ?_)
    have f37 : In 0 59 (sI s34 83 x1.toNatClampNeg) := In_ne e36 (by omega) (In_cell e28 q30)
    refine r_val ?_
    generalize ei15 : (x3 + (1 : Int32)) = i15
    have qi15 : In 1 3 i15 := by rw [← ei15]; exact (In_w (In_add q24 (by decide : In 1 1 (1 : Int32)) (by decide) (by decide)) (by decide) (by decide) : In 1 3 (x3 + (1 : Int32)))
    exact hk45 s34 x0 x1 x2 i15 (Rlweak g35 (by decide +kernel) (by decide) (by decide)) h_x0 (In_w h_x1 (by decide) (by decide)) (In_w h_x2 (by decide) (by decide)) (In_w qi15 (by decide) (by decide)) (In_w f37 (by decide) (by decide))  (by rw [← ei15, toInt_add1 q24 (by decide) (by decide)]; omega)
theorem tR_M_grant_L45 {T : Nat → Nat} {S0 : AS} : ∀ (n : Nat) (S : AS) (x0 : Option Nat) (x1 : Int32) (x2 : Int32) (x3 : Int32), Rl T kw_M113 S0 0 0 T S → Tx T 100 x0 → In 0 59 x1 → In 0 5 x2 → In 0 3 x3 → In 0 59 (sI S 83 x1.toNatClampNeg) → (3 + 1 : Int) ≤ x3.toInt + (n : Int) → Ho (f_M_grant_L45  n S x0 x1 x2 x3) (fun q => Rl T kw_M115 S0 0 0 T q) := by
  intro n
  induction n with
  | zero =>
    intro S x0 x1 x2 x3 g h_x0 h_x1 h_x2 h_x3 hx_83_x1 hm
    exact absurd hm (by have := h_x3.2; omega)
  | succ n ih =>
    intro S x0 x1 x2 x3 g h_x0 h_x1 h_x2 h_x3 hx_83_x1 hm
    exact tR_M_grant_C45 g  (fun S' z0 z1 z2 z3 g' a_h_x0 a_h_x1 a_h_x2 a_h_x3 a_hx_83_x1 am => ih S' z0 z1 z2 z3 g' a_h_x0 a_h_x1 a_h_x2 a_h_x3 a_hx_83_x1 am) hm h_x0 h_x1 h_x2 h_x3 hx_83_x1 
theorem tR_M_leave_B140_4t173_6c1 {T : Nat → Nat} {S0 S : AS} (g : Rl T kw_M116 S0 0 0 T S) {x0 : Option Nat} {x1 : Int32} {x2 : Int32} {x3 : Int32} {y0 : Option Nat} {y1 : Int32} {k103 : AS → Option Nat → Int32 → Int32 → Int32 → Option (Int32 × AS)} {n103 : Nat} (hk103 : ∀ (S' : AS) (z0 : Option Nat) (z1 : Int32) (z2 : Int32) (z3 : Int32), Rl T kw_M116 S0 0 0 T S' → Tx T 100 z0 → In 0 5 z1 → In 0 20 z3 → (20 + 1 : Int) ≤ z3.toInt + (n103 : Int) → Ho (k103 S' z0 z1 z2 z3) (fun q => Rl T kw_M116 S0 0 0 T q.2 ∧ True)) (hm103 : (20 + 1 : Int) ≤ x3.toInt + ((n103 + 1 : Nat) : Int)) (h_x0 : Tx T 100 x0) (h_x1 : In 0 5 x1) (h_x3 : In 0 19 x3) (h_y0 : Tx T 173 y0) (h_y1 : In 0 19 y1) (hx_57_70 : In 1 20 (sI S 57 70)) : Ho (f_M_leave_B140 k103 S x0 x1 x2 x3 y0 y1 (1 : Int32)) (fun q => Rl T kw_M116 S0 0 0 T q.2 ∧ True) := by
  unfold f_M_leave_B140
  refine r_bZs (w' := kw_M116) g h_y0 rfl (p := 119) rfl rfl (In_w h_y1 (by decide) (by decide) : In 0 19 y1) (by decide) (In_w (by decide : In 1 1 (1 : Int32)) (by decide) (by decide)) (fun _ _ _ q => by cases q; exact (In_w (by decide : In 1 1 (1 : Int32)) (by decide) (by decide))) (fun _ => rfl) (by decide) (by decide +kernel) (fun _ => by unfold phc; omega) (fun s1 g2 e3 => ?_)
  have f4 : In 1 20 (sI s1 57 70) := In_ne e3 (by omega) hx_57_70
  have f5 : In 1 1 (sI s1 119 y1.toNatClampNeg) := In_eqw e3 (In_w (by decide : In 1 1 (1 : Int32)) (by decide) (by decide))
  refine r_val ?_
  generalize ei6 : (x3 + (1 : Int32)) = i6
  have qi6 : In 1 20 i6 := by rw [← ei6]; exact (In_w (In_add h_x3 (by decide : In 1 1 (1 : Int32)) (by decide) (by decide)) (by decide) (by decide) : In 1 20 (x3 + (1 : Int32)))
  exact hk103 s1 x0 x1 x2 i6 (Rlweak g2 (by decide +kernel) (by decide) (by decide)) h_x0 (In_w h_x1 (by decide) (by decide)) (In_w qi6 (by decide) (by decide))  (by rw [← ei6, toInt_add1 h_x3 (by decide) (by decide)]; omega)
theorem tR_M_leave_B140_4t173_6c0 {T : Nat → Nat} {S0 S : AS} (g : Rl T kw_M116 S0 0 0 T S) {x0 : Option Nat} {x1 : Int32} {x2 : Int32} {x3 : Int32} {y0 : Option Nat} {y1 : Int32} {k103 : AS → Option Nat → Int32 → Int32 → Int32 → Option (Int32 × AS)} {n103 : Nat} (hk103 : ∀ (S' : AS) (z0 : Option Nat) (z1 : Int32) (z2 : Int32) (z3 : Int32), Rl T kw_M116 S0 0 0 T S' → Tx T 100 z0 → In 0 5 z1 → In 0 20 z3 → (20 + 1 : Int) ≤ z3.toInt + (n103 : Int) → Ho (k103 S' z0 z1 z2 z3) (fun q => Rl T kw_M116 S0 0 0 T q.2 ∧ True)) (hm103 : (20 + 1 : Int) ≤ x3.toInt + ((n103 + 1 : Nat) : Int)) (h_x0 : Tx T 100 x0) (h_x1 : In 0 5 x1) (h_x3 : In 0 19 x3) (h_y0 : Tx T 173 y0) (h_y1 : In 0 19 y1) (hx_57_70 : In 1 20 (sI S 57 70)) : Ho (f_M_leave_B140 k103 S x0 x1 x2 x3 y0 y1 (0 : Int32)) (fun q => Rl T kw_M116 S0 0 0 T q.2 ∧ True) := by
  unfold f_M_leave_B140
  refine r_bZs (w' := kw_M116) g h_y0 rfl (p := 119) rfl rfl (In_w h_y1 (by decide) (by decide) : In 0 19 y1) (by decide) (In_w (by decide : In 0 0 (0 : Int32)) (by decide) (by decide)) (fun _ _ _ q => by cases q; exact (In_w (by decide : In 0 0 (0 : Int32)) (by decide) (by decide))) (fun _ => rfl) (by decide) (by decide +kernel) (fun _ => by unfold phc; omega) (fun s1 g2 e3 => ?_)
  have f4 : In 1 20 (sI s1 57 70) := In_ne e3 (by omega) hx_57_70
  have f5 : In 0 0 (sI s1 119 y1.toNatClampNeg) := In_eqw e3 (In_w (by decide : In 0 0 (0 : Int32)) (by decide) (by decide))
  refine r_val ?_
  generalize ei6 : (x3 + (1 : Int32)) = i6
  have qi6 : In 1 20 i6 := by rw [← ei6]; exact (In_w (In_add h_x3 (by decide : In 1 1 (1 : Int32)) (by decide) (by decide)) (by decide) (by decide) : In 1 20 (x3 + (1 : Int32)))
  exact hk103 s1 x0 x1 x2 i6 (Rlweak g2 (by decide +kernel) (by decide) (by decide)) h_x0 (In_w h_x1 (by decide) (by decide)) (In_w qi6 (by decide) (by decide))  (by rw [← ei6, toInt_add1 h_x3 (by decide) (by decide)]; omega)
theorem tR_M_leave_B139_4t173 {T : Nat → Nat} {S0 S : AS} (g : Rl T kw_M116 S0 0 0 T S) {x0 : Option Nat} {x1 : Int32} {x2 : Int32} {x3 : Int32} {y0 : Option Nat} {y1 : Int32} {k103 : AS → Option Nat → Int32 → Int32 → Int32 → Option (Int32 × AS)} {n103 : Nat} (hk103 : ∀ (S' : AS) (z0 : Option Nat) (z1 : Int32) (z2 : Int32) (z3 : Int32), Rl T kw_M116 S0 0 0 T S' → Tx T 100 z0 → In 0 5 z1 → In 0 20 z3 → (20 + 1 : Int) ≤ z3.toInt + (n103 : Int) → Ho (k103 S' z0 z1 z2 z3) (fun q => Rl T kw_M116 S0 0 0 T q.2 ∧ True)) (hm103 : (20 + 1 : Int) ≤ x3.toInt + ((n103 + 1 : Nat) : Int)) (h_x0 : Tx T 100 x0) (h_x1 : In 0 5 x1) (h_x3 : In 0 19 x3) (h_y0 : Tx T 173 y0) (h_y1 : In 0 19 y1) (hx_57_70 : In 1 20 (sI S 57 70)) : Ho (f_M_leave_B139 k103 S x0 x1 x2 x3 y0 y1) (fun q => Rl T kw_M116 S0 0 0 T q.2 ∧ True) := by
  unfold f_M_leave_B139
  exact tR_M_leave_B140_4t173_6c0 (Rlweak g (by decide +kernel) (by decide) (by decide)) hk103 hm103 h_x0 (In_w h_x1 (by decide) (by decide)) (In_w h_x3 (by decide) (by decide)) h_y0 (In_w h_y1 (by decide) (by decide)) (In_w hx_57_70 (by decide) (by decide)) 
theorem tR_M_leave_C103 {T : Nat → Nat} {S0 S : AS} (g : Rl T kw_M116 S0 0 0 T S) {x0 : Option Nat} {x1 : Int32} {x2 : Int32} {x3 : Int32} {k103 : AS → Option Nat → Int32 → Int32 → Int32 → Option (Int32 × AS)} {n103 : Nat} (hk103 : ∀ (S' : AS) (z0 : Option Nat) (z1 : Int32) (z2 : Int32) (z3 : Int32), Rl T kw_M116 S0 0 0 T S' → Tx T 100 z0 → In 0 5 z1 → In 0 20 z3 → (20 + 1 : Int) ≤ z3.toInt + (n103 : Int) → Ho (k103 S' z0 z1 z2 z3) (fun q => Rl T kw_M116 S0 0 0 T q.2 ∧ True)) (hm103 : (20 + 1 : Int) ≤ x3.toInt + ((n103 + 1 : Nat) : Int)) (h_x0 : Tx T 100 x0) (h_x1 : In 0 5 x1) (h_x3 : In 0 20 x3) : Ho (f_M_leave_C103 k103 S x0 x1 x2 x3) (fun q => Rl T kw_M116 S0 0 0 T q.2 ∧ True) := by
  unfold f_M_leave_C103
  refine r_gIs g.1 h_x0 rfl (p := 57) rfl (fun v7 b1 e2 => ?_)
  have q3 : In 0 20 v7 := b1 _ _ rfl
  refine r_if (fun c4 => ?_) (fun c4 => ?_)
  · exact r_some ⟨(Rlweak g (by decide +kernel) (by decide) (by decide)), trivial⟩
  · have q5 : In 0 19 x3 := In_w (In_lt1 (Int32.not_le.mp c4) h_x3 q3) (by decide) (by decide)
    have q6 : In 1 20 v7 := In_w (In_lt2 (Int32.not_le.mp c4) h_x3 q3) (by decide) (by decide)
    refine r_gR g.1 h_x0 rfl rfl (fun v8 h7 => ?_)
    refine r_gR g.1 h_x0 rfl rfl (fun v9 h8 => ?_)
    refine r_aIs g.1 h8 rfl (p := 119) rfl rfl (In_w q5 (by decide) (by decide) : In 0 19 x3) (by decide) (fun v10 b9 e10 => ?_)
    have q11 : In 0 1 v10 := b9 _ _ rfl
    refine r_if (fun c12 => ?_) (fun c12 => ?_)
    · have q13 : In 0 0 v10 := In_w (In_eq c12 (by decide : In 0 0 (0 : Int32))) (by decide) (by decide)
      exact tR_M_leave_B139_4t173 (Rlweak g (by decide +kernel) (by decide) (by decide)) hk103 hm103 h_x0 (In_w h_x1 (by decide) (by decide)) (In_w q5 (by decide) (by decide)) h7 (In_w q5 (by decide) (by decide)) (In_w (In_cell e2 q6) (by decide) (by decide)) 
    · have q14 : In 1 1 v10 := In_w (In_neL c12 q11 (by decide)) (by decide) (by decide)
      refine r_gR g.1 h_x0 rfl rfl (fun v11 h15 => ?_)
      refine r_aIs g.1 h15 rfl (p := 117) rfl rfl (In_w q5 (by decide) (by decide) : In 0 19 x3) (by decide) (fun v12 b16 e17 => ?_)
      have q18 : In 0 5 v12 := b16 _ _ rfl
      refine r_if (fun c19 => ?_) (fun c19 => ?_)
      · exact tR_M_leave_B139_4t173 (Rlweak g (by decide +kernel) (by decide) (by decide)) hk103 hm103 h_x0 (In_w h_x1 (by decide) (by decide)) (In_w q5 (by decide) (by decide)) h7 (In_w q5 (by decide) (by decide)) (In_w (In_cell e2 q6) (by decide) (by decide))
      · exact tR_M_leave_B140_4t173_6c1 (Rlweak g (by decide +kernel) (by decide) (by decide)) hk103 hm103 h_x0 (In_w h_x1 (by decide) (by decide)) (In_w q5 (by decide) (by decide)) h7 (In_w q5 (by decide) (by decide)) (In_w (In_cell e2 q6) (by decide) (by decide))
theorem tR_M_leave_L103 {T : Nat → Nat} {S0 : AS} : ∀ (n : Nat) (S : AS) (x0 : Option Nat) (x1 : Int32) (x2 : Int32) (x3 : Int32), Rl T kw_M116 S0 0 0 T S → Tx T 100 x0 → In 0 5 x1 → In 0 20 x3 → (20 + 1 : Int) ≤ x3.toInt + (n : Int) → Ho (f_M_leave_L103  n S x0 x1 x2 x3) (fun q => Rl T kw_M116 S0 0 0 T q.2 ∧ True) := by
  intro n
  induction n with
  | zero =>
    intro S x0 x1 x2 x3 g h_x0 h_x1 h_x3 hm
    exact absurd hm (by have := h_x3.2; omega)
  | succ n ih =>
    intro S x0 x1 x2 x3 g h_x0 h_x1 h_x3 hm
    exact tR_M_leave_C103 g  (fun S' z0 z1 z2 z3 g' a_h_x0 a_h_x1 a_h_x3 am => ih S' z0 z1 z2 z3 g' a_h_x0 a_h_x1 a_h_x3 am) hm h_x0 h_x1 h_x3 
