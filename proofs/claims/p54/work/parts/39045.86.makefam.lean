/-! ===== a code becomes a family: the class ===== -/
theorem m_bZ {α β : Type} {κ : Nat} {S : AS} {k : Nat} {i v : Int32} {F : AS → Option β} {x : Option α} {Q : α → β → Prop} (h : 0 ≤ i.toInt → i.toInt < (sL S k : Int) → H2 x (F (wI S k i.toNatClampNeg v)) Q) : H2 x ((bZ S (some k) i v κ).bind F) Q := fun a b ha hb => by
  obtain ⟨c, e⟩ := bind_cut hb
  exact h c.2.1.1 c.2.1.2 a b ha e
theorem lrow {T : Nat → Nat} {S : AS} (hT : TI T S) {q i : Nat} (hq : q < 7) (hi : (i : Int) < (sI S (lp q) 2).toInt) : ∃ e, sR S (lp q) 1 = some e ∧ T e = 30 + q := by
  obtain ⟨l1, e, l2, l3, l4, l5, l6⟩ := hT.t6 q hq
  refine ⟨e, l2, ?_⟩
  rcases l3 with l3 | l3
  · exact l3
  · rw [l3, hT.t8.2.2.2.2.2.1] at l4
    omega
def P_red (S m : AS) : Prop := cCod S m ∧ cFre S m ∧ cFam S m ∧ cNum S m ∧ cGod S m ∧ cTok S m ∧ cAud S m ∧ cAU S m
theorem FR_red {S m : AS} (h : FR S m) : P_red S m := ⟨h.Cod, h.Fre, h.Fam, h.Num, h.God, h.Tok, h.Aud, h.AU⟩
/-- what making a family leaves in the class, the token not yet there -/
def MFK (S S' : AS) (g d nf : Nat) : Prop :=
  (sN S ≤ sN S' ∧ (∀ k, k < sN S → sL S' k = sL S k) ∧ ∃ d', sR S' 23 1 = some d' ∧ ((d' = d ∧ nf < sL S d) ∨ sN S ≤ d') ∧ d' < sN S') ∧
  (∀ k j, k < sN S → ¬ (k = 23 ∧ (j = 0 ∨ j = 2)) → ¬ (k = g ∧ (j = 5 ∨ j = 6)) → k ≠ 5 → k ≠ 6 → k ≠ 7 → sI S' k j = sI S k j) ∧
  (∀ k j, k < sN S → ¬ (k = 23 ∧ j = 1) → ¬ (k = d ∧ j = nf) → sR S' k j = sR S k j) ∧
  (sI S' g 5 = Int32.ofNat nf ∧ sI S' g 6 = 1 ∧ sI S' 23 2 = Int32.ofNat (nf + 1)) ∧
  ((∀ i, i < nf → lel S' 23 i = lel S 23 i) ∧ lel S' 23 nf = g) ∧
  ∃ Sa, sI Sa 5 2 = sI S 5 2 ∧ (sI Sa 6 = sI S 6 ∧ sI Sa 5 3 = sI S 5 3 ∧ sI Sa 7 = sI S 7 ∧ sI Sa 4 0 = sI S 4 0) ∧ AWK Sa S' (Int32.ofNat 2) (Int32.ofNat nf)
theorem p_mf {S : AS} {g d nf d2 nt to : Nat} {frm sc key now : Int32} (k4 : K4F S) (n4 : 4 < sN S) (n5 : 5 < sN S) (n25 : 25 < sN S) (n23 : 23 < sN S) (n24 : 24 < sN S) (hg : g < sN S) (g4 : g ≠ 4) (gA : g ≠ 5 ∧ g ≠ 6 ∧ g ≠ 7) (g23 : g ≠ 23) (g24 : g ≠ 24) (g25 : g ≠ 25)
    (hs : sI S 23 2 = Int32.ofNat nf) (hr : sR S 23 1 = some d) (hn : nf < 201) (hL : sL S d ≤ 400) (hd : d < sN S) (dn : d ≠ 23 ∧ d ≠ 4 ∧ d ≠ 5 ∧ d ≠ 24 ∧ d ≠ 25)
    (hs2 : sI S 24 2 = Int32.ofNat nt) (hr2 : sR S 24 1 = some d2) (hn2 : nt < 201) (hL2 : sL S d2 ≤ 400) (hd2 : d2 < sN S) (dn2 : d2 ≠ 24 ∧ d2 ≠ 4)
    (e1 : sI S g 1 = frm) (e2 : sI S g 2 = Int32.ofNat to) (e3 : sI S g 3 = sc) (ek : sI S 25 1 = key) (en : sI S 4 0 = now) :
    Hp (f_K_makeFamily S (some 4) (some g)) (fun S' => ∃ S1, MFK S S1 g d nf ∧ TKK S1 S' g d2 nt to frm sc 0 key (now + 10)) := by
  have r4 := k4.1 13 23 rfl
  unfold f_K_makeFamily
  refine p_of (st_gRe r4) (p_of st_rv (p_of st_size ?_))
  rw [hs]
  refine p_of st_pI (p_of st_pZ ?_)
  obtain ⟨S6, e6⟩ : ∃ S6, S6 = wI (wI S g 5 (Int32.ofNat nf)) g 6 1 := ⟨_, rfl⟩
  rw [← e6]
  have r6 : sR S6 = sR S := by rw [e6, sR_wI, sR_wI]
  have N6 : sN S6 = sN S := by rw [e6]; rfl
  have L6 : sL S6 = sL S := by rw [e6]; rfl
  have o6 : ∀ {k j : Nat}, ¬ (k = g ∧ (j = 5 ∨ j = 6)) → sI S6 k j = sI S k j := fun z => by
    rw [e6, ti_sI_ne (by omega), ti_sI_ne (by omega)]
  have g65 : sI S6 g 5 = Int32.ofNat nf := by rw [e6, ti_sI_ne (by omega), ti_sI_eq]
  have g66 : sI S6 g 6 = 1 := by rw [e6, ti_sI_eq]
  refine p_of (st_gRe (v := some 23) (by rw [r6]; exact r4)) (p_of st_rv (p_b2 (p_and (p_add (S := S6) (l := 23) (d := d) (x := g) (n := nf) (by rw [r6]; exact hr) ((o6 (by omega)).trans hs) hn (by rw [L6]; exact hL) (by rw [N6]; exact n23) (by rw [N6]; exact hd) dn.1) (p_addL (S := S6) (l := 23) (d := d) (x := g) (n := nf) (by rw [r6]; exact hr) ((o6 (by omega)).trans hs) hn (by rw [L6]; exact hL) (by rw [N6]; exact hd) (by rw [N6]; exact n23) dn.1)) (fun v S9 p => ?_)))
  obtain ⟨⟨p1, p2, p3, p4, p5⟩, q1, q2, d', q3, q4, q5⟩ := p
  have q1 : sN S6 ≤ sN S9 := q1
  have q2 : ∀ k, k < sN S6 → sL S9 k = sL S6 k := q2
  have q3 : sR S9 23 1 = some d' := q3
  have q5 : d' < sN S9 := q5
  have p2 : sI S9 23 2 = Int32.ofNat (nf + 1) := p2
  rw [N6] at q1 q2 q4
  rw [L6] at q2 q4
  have I9 : ∀ k j, k < sN S → ¬ (k = 23 ∧ (j = 0 ∨ j = 2)) → sI S9 k j = sI S6 k j := fun k j hk z => p1 k j (by rw [N6]; exact hk) z
  have R9 : ∀ k j, k < sN S → ¬ (k = 23 ∧ j = 1) → ¬ (k = d ∧ j = nf) → sR S9 k j = sR S k j := fun k j hk z1 z2 => (p3 k j (by rw [N6]; exact hk) z1 z2).trans (by rw [r6])
  refine p_of (st_gRe (v := some 5) ((R9 4 1 n4 (by omega) (by omega)).trans (k4.1 1 5 rfl))) (p_of (st_gIe (v := Int32.ofNat nf) ((I9 g 5 hg (by omega)).trans g65)) (p_of st_gI (p_of st_rv ?_)))
  have h50 : sR S9 5 0 = some 6 := (R9 5 0 n5 (by omega) (by omega)).trans k4.2.1
  have h51 : sR S9 5 1 = some 7 := (R9 5 1 n5 (by omega) (by omega)).trans k4.2.2.1
  refine p_bd (p_and (p_aw (k := Int32.ofNat 2) h50 h51 rfl) (p_awN h50 h51)) (fun S15 p => p_of st_rv ?_)
  obtain ⟨a, N15⟩ := p
  have N15 : sN S15 = sN S9 := N15
  have r15 : sR S15 = sR S9 := a.1.1
  have l15 : sL S15 = sL S9 := a.1.2.1
  have a' := a.1.2.2
  have I15 : ∀ k j, k < sN S → ¬ (k = 23 ∧ (j = 0 ∨ j = 2)) → ¬ (k = g ∧ (j = 5 ∨ j = 6)) → k ≠ 5 → k ≠ 6 → k ≠ 7 → sI S15 k j = sI S k j := fun k j hk z1 z2 z5 z6 z7 => (a' k j z5 z6 z7).trans ((I9 k j hk z1).trans (o6 z2))
  have R15 : ∀ k j, k < sN S → ¬ (k = 23 ∧ j = 1) → ¬ (k = d ∧ j = nf) → sR S15 k j = sR S k j := fun k j hk z1 z2 => by
    rw [r15]
    exact R9 k j hk z1 z2
  have mf : MFK S S15 g d nf := by
    refine ⟨⟨by rw [N15]; exact q1, fun k hk => by rw [l15]; exact q2 k hk, d', by rw [r15]; exact q3, q4, by rw [N15]; exact q5⟩, I15, R15, ⟨?_, ?_, ?_⟩, ⟨fun i hi => ?_, ?_⟩, S9, ?_, ⟨funext fun j => ?_, (I9 5 3 n5 (by omega)).trans (o6 (by omega)), funext fun j => (I9 7 j (by omega) (by omega)).trans (o6 (by omega)), (I9 4 0 n4 (by omega)).trans (o6 (by omega))⟩, a⟩
    · rw [a' _ _ gA.1 gA.2.1 gA.2.2, I9 g 5 hg (by omega)]
      exact g65
    · rw [a' _ _ gA.1 gA.2.1 gA.2.2, I9 g 6 hg (by omega)]
      exact g66
    · rw [a' _ _ (by omega) (by omega) (by omega)]
      exact p2
    · have e : sR S9 ((sR S9 23 1).getD 0) i = sR S6 d i := p4 i hi
      unfold lel
      rw [r15, e, r6, hr]
      rfl
    · have e : sR S9 ((sR S9 23 1).getD 0) nf = some g := p5
      unfold lel
      rw [r15, e]
      rfl
    · rw [I9 5 2 n5 (by omega)]
      exact o6 (by omega)
    · rw [I9 6 j (by omega) (by omega)]
      exact o6 (by omega)
  have k15 : K4F S15 := by
    refine ⟨fun j p q => ?_, ?_, ?_, ?_⟩
    · rw [R15 4 j n4 (by omega) (by omega)]
      exact k4.1 j p q
    · rw [R15 5 0 n5 (by omega) (by omega)]
      exact k4.2.1
    · rw [R15 5 1 n5 (by omega) (by omega)]
      exact k4.2.2.1
    · rw [R15 25 5 n25 (by omega) (by omega)]
      exact k4.2.2.2
  have le : sN S ≤ sN S15 := by
    rw [N15]
    exact q1
  refine p_bd (p_fht (S := S15) (g := g) (d := d2) (n := nt) (to := to) (frm := frm) (sc := sc) (key := key) (now := now) k15 ((I15 24 2 n24 (by omega) (by omega) (by omega) (by omega) (by omega)).trans hs2) ((R15 24 1 n24 (by omega) (by omega)).trans hr2) hn2 (by rw [l15, q2 d2 hd2]; exact hL2) (by omega) (by omega) (by omega) (by omega) dn2.1 dn2.2 (by omega) g24
    ((I15 g 1 hg (by omega) (by omega) gA.1 gA.2.1 gA.2.2).trans e1) ((I15 g 2 hg (by omega) (by omega) gA.1 gA.2.1 gA.2.2).trans e2) ((I15 g 3 hg (by omega) (by omega) gA.1 gA.2.1 gA.2.2).trans e3) ((I15 25 1 n25 (by omega) (by omega) (by omega) (by omega) (by omega)).trans ek) ((I15 4 0 n4 (by omega) (by omega) (by omega) (by omega) (by omega)).trans en)) (fun S17 p => p_ret ⟨S15, mf, p⟩)
/-- and the reference -/
def MFM (m m' : AS) (c nf : Nat) : Prop :=
  (sR m' = sR m ∧ sL m' = sL m ∧ ∀ q j, ¬ ((q = 99 ∨ q = 100 ∨ q = 101 ∨ q = 103) ∧ j = nf) → ¬ (q = 98 ∧ j = c) → ¬ (q = 57 ∧ (j = 46 ∨ j = 77 ∨ j = 81)) → q ≠ 123 → q ≠ 124 → q ≠ 125 → sI m' q j = sI m q j) ∧
  (sI m' 99 nf = Int32.ofNat c ∧ sI m' 100 nf = 0 ∧ sI m' 103 nf = 1 ∧ sI m' 98 c = Int32.ofNat nf ∧ sI m' 57 46 = Int32.ofNat (nf + 1)) ∧
  ∃ ma, sI ma 57 77 = sI m 57 77 ∧ sI ma 123 = sI m 123 ∧ (sI ma 124 = sI m 124 ∧ sI ma 57 81 = sI m 57 81 ∧ sI ma 125 = sI m 125 ∧ sI ma 57 0 = sI m 57 0) ∧ sL ma = sL m ∧ AWM ma m' (Int32.ofNat 2) (Int32.ofNat nf)
theorem m_mf {m : AS} {c nf nt to : Nat} {frm sc : Int32} {β : Type} {x : Option β} {Q : β → Int32 × AS → Prop} (hmf : MF m) (hc : c < 60) (l99 : sL m 99 = 60) (h46 : sI m 57 46 = Int32.ofNat nf) (hn : nf < 201) (nt200 : nt < 200) (h52 : sI m 57 52 = Int32.ofNat nt) (e94 : sI m 94 c = frm) (e95 : sI m 95 c = Int32.ofNat to) (e96 : sI m 96 c = sc)
    (H : nf < 60 → ∀ m1 m2, MFM m m1 c nf → TKM m1 m2 nf nt to frm sc 0 (sI m 57 0 + 10) → H2 x (some (Int32.ofNat nf, m2)) Q) :
    H2 x ((gI m 39 46 (some 57)).bind fun v10 => (gR m 39 47 (some 57)).bind fun v11 => (bI m v11 v10 (Int32.ofNat c) 46).bind fun S12 => (gR S12 39 48 (some 57)).bind fun v13 => (bI S12 v13 v10 (0 : Int32) 46).bind fun S14 => (gR S14 39 49 (some 57)).bind fun v15 => (gI S14 39 0 (some 57)).bind fun v16 => (bI S14 v15 v10 v16 46).bind fun S17 => (gR S17 39 51 (some 57)).bind fun v18 => (bZ S17 v18 v10 (1 : Int32) 47).bind fun S19 => (gR S19 39 45 (some 57)).bind fun v20 => (bI S19 v20 (Int32.ofNat c) v10 46).bind fun S21 => (gI S21 39 46 (some 57)).bind fun v22 => (pI S21 39 46 (some 57) (v22 + (1 : Int32))).bind fun S23 => (kr_rv S23 39 (some 57)).bind fun u24 => (f_M_write S23 (some 57) (2 : Int32) v10).bind fun S25 => (kr_rv S25 39 (some 57)).bind fun u26 => (f_M_firstToken S25 (some 57) v10).bind fun S27 => some (v10, S27)) Q := by
  have on : (Int32.ofNat nf).toNatClampNeg = nf := oc (by omega)
  refine m_of (st_gIe h46) (m_of (st_gRe (hmf 47 99 rfl)) (m_bI (fun _ b1 => ?_)))
  rw [l99, oi (by omega)] at b1
  have n60 : nf < 60 := by omega
  rw [on]
  refine m_of (st_gRe (v := some 100) (hmf 48 100 rfl)) (m_of (st_bIe on) (m_of (st_gRe (v := some 101) (hmf 49 101 rfl)) (m_of (st_gIe (v := sI m 57 0) ((ti_sI_ne (by omega)).trans (ti_sI_ne (by omega)))) (m_of (st_bIe on) ?_))))
  refine m_of (st_gRe (v := some 103) (hmf 51 103 rfl)) (m_of (st_bZe on) (m_of (st_gRe (v := some 98) (hmf 45 98 rfl)) (m_of (st_bIe (oc (by omega))) ?_)))
  obtain ⟨m0, e0⟩ : ∃ m0, m0 = wI (wI (wI (wI (wI m 99 nf (Int32.ofNat c)) 100 nf 0) 101 nf (sI m 57 0)) 103 nf 1) 98 c (Int32.ofNat nf) := ⟨_, rfl⟩
  rw [← e0]
  have r0 : sR m0 = sR m := by rw [e0]; rfl
  have l0 : sL m0 = sL m := by rw [e0]; rfl
  have o0 : ∀ q j, ¬ ((q = 99 ∨ q = 100 ∨ q = 101 ∨ q = 103) ∧ j = nf) → ¬ (q = 98 ∧ j = c) → sI m0 q j = sI m q j := fun q j z1 z2 => by
    rw [e0, ti_sI_ne (by omega), ti_sI_ne (by omega), ti_sI_ne (by omega), ti_sI_ne (by omega), ti_sI_ne (by omega)]
  refine m_of (st_gIe (v := Int32.ofNat nf) ((o0 _ _ (by omega) (by omega)).trans h46)) (m_of st_pI (m_of st_rv ?_))
  refine m_pd (p_mw (m := wI m0 57 46 (Int32.ofNat nf + 1)) (k := Int32.ofNat 2) (nu := Int32.ofNat nf) (MF_e hmf r0)) (fun m1 b => m_of st_rv ?_)
  have b' := b.1.2.2
  have o1' : ∀ q j, ¬ ((q = 99 ∨ q = 100 ∨ q = 101 ∨ q = 103) ∧ j = nf) → ¬ (q = 98 ∧ j = c) → ¬ (q = 57 ∧ (j = 46 ∨ j = 77 ∨ j = 81)) → q ≠ 123 → q ≠ 124 → q ≠ 125 → sI m1 q j = sI m q j := fun q j z1 z2 z3 z4 z5 z6 => by
    rw [b' q j z4 z5 z6 (by omega), ti_sI_ne (by omega), o0 q j z1 z2]
  have y99 : sI m1 99 nf = Int32.ofNat c := by
    rw [b' _ _ (by omega) (by omega) (by omega) (by omega), ti_sI_ne (by omega), e0, ti_sI_ne (by omega), ti_sI_ne (by omega), ti_sI_ne (by omega), ti_sI_ne (by omega), ti_sI_eq]
  have mm : MFM m m1 c nf := by
    refine ⟨⟨b.1.1.trans r0, b.1.2.1.trans l0, o1'⟩, ⟨y99, ?_, ?_, ?_, ?_⟩, wI m0 57 46 (Int32.ofNat nf + 1), ?_, funext fun j => ?_, ⟨funext fun j => ?_, (ti_sI_ne (by omega)).trans (o0 _ _ (by omega) (by omega)), funext fun j => (ti_sI_ne (by omega)).trans (o0 _ _ (by omega) (by omega)), (ti_sI_ne (by omega)).trans (o0 _ _ (by omega) (by omega))⟩, l0, b⟩
    · rw [b' _ _ (by omega) (by omega) (by omega) (by omega), ti_sI_ne (by omega), e0, ti_sI_ne (by omega), ti_sI_ne (by omega), ti_sI_ne (by omega), ti_sI_eq]
    · rw [b' _ _ (by omega) (by omega) (by omega) (by omega), ti_sI_ne (by omega), e0, ti_sI_ne (by omega), ti_sI_eq]
    · rw [b' _ _ (by omega) (by omega) (by omega) (by omega), ti_sI_ne (by omega), e0, ti_sI_eq]
    · rw [b' _ _ (by omega) (by omega) (by omega) (by omega), ti_sI_eq, o1]
    · exact (ti_sI_ne (by omega)).trans (o0 _ _ (by omega) (by omega))
    · exact (ti_sI_ne (by omega)).trans (o0 _ _ (by omega) (by omega))
    · exact (ti_sI_ne (by omega)).trans (o0 _ _ (by omega) (by omega))
  refine m_pd (p_ftM (m := m1) (f := nf) (c := c) (n := nt) (to := to) (frm := frm) (sc := sc) (MF_e hmf (b.1.1.trans r0)) nt200 n60 hc ((o1' _ _ (by omega) (by omega) (by omega) (by omega) (by omega) (by omega)).trans h52) y99 ((o1' _ _ (by omega) (by omega) (by omega) (by omega) (by omega) (by omega)).trans e94) ((o1' _ _ (by omega) (by omega) (by omega) (by omega) (by omega) (by omega)).trans e95) ((o1' _ _ (by omega) (by omega) (by omega) (by omega) (by omega) (by omega)).trans e96)) (fun m2 tm => ?_)
  rw [o1' 57 0 (by omega) (by omega) (by omega) (by omega) (by omega) (by omega)] at tm
  exact H n60 m1 m2 mm tm
