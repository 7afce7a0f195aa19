/-! ===== writes that the bounds count ===== -/
theorem Rlph {T0 T : Nat → Nat} {w : List Nat} {S0 S : AS} {c1 c s : Nat} (h : Rl T0 w S0 c1 s T S) (hC : sC S ≤ sC S0 + c) (hP : Ph S ≤ Ph S0 + c) : Rl T0 w S0 c s T S :=
  ⟨h.1, h.2.1, h.2.2.1, ⟨hC, h.2.2.2.1.2.1, hP, h.2.2.2.1.2.2.2⟩, h.2.2.2.2.1, h.2.2.2.2.2.1, h.2.2.2.2.2.2.1, h.2.2.2.2.2.2.2.1, h.2.2.2.2.2.2.2.2⟩
theorem Rlgf {T0 T : Nat → Nat} {w : List Nat} {S0 S : AS} {c s1 s : Nat} (h : Rl T0 w S0 c s1 T S) (hS : sS S ≤ sS S0 + s) (hG : Gf S ≤ Gf S0 + s) : Rl T0 w S0 c s T S :=
  ⟨h.1, h.2.1, h.2.2.1, ⟨h.2.2.2.1.1, hS, h.2.2.2.1.2.2.1, hG⟩, h.2.2.2.2.1, h.2.2.2.2.2.1, h.2.2.2.2.2.2.1, h.2.2.2.2.2.2.2.1, h.2.2.2.2.2.2.2.2⟩
theorem In11 {v : Int32} (h : In 1 1 v) : v = 1 := by
  obtain ⟨h1, h2⟩ := h
  exact Int32.toInt_inj.mp (by rw [show (1 : Int32).toInt = 1 from by decide]; omega)
/-- a mark of the two counted rows is written: what becomes of the bounds -/
theorem ph_live (S : AS) {i : Nat} (hi : i < 60) (v : Int32) : Ph (wI S 89 i v) + (if sI S 89 i = 1 then 1 else 0) = Ph S + (if v = 1 then 1 else 0) ∧ Gf (wI S 89 i v) = Gf S := by
  have q1 : ∀ j, sI (wI S 89 i v) 57 j = sI S 57 j := fun j => ti_sI_ne (by omega)
  have q2 : sI (wI S 89 i v) 103 = sI S 103 := by funext j; exact ti_sI_ne (by omega)
  have q3 : sI (wI S 89 i v) 98 = sI S 98 := by funext j; exact ti_sI_ne (by omega)
  have q4 := cnt_one (f := sI (wI S 89 i v) 89) (g := sI S 89) (i := i) (fun j hj => ti_sI_ne (fun z => hj z.2)) (n := 60) hi
  rw [ti_sI_eq] at q4
  unfold Ph Gf
  rw [q1, q1, q1, q1, q1, q2, q3]
  refine ⟨?_, rfl⟩
  split at q4 <;> split at q4 <;> simp_all <;> omega
theorem ph_good (S : AS) {i : Nat} (hi : i < 60) (v : Int32) : Ph (wI S 103 i v) + (if sI S 103 i = 1 then 1 else 0) = Ph S + (if v = 1 then 1 else 0) ∧ Gf (wI S 103 i v) = Gf S := by
  have q1 : ∀ j, sI (wI S 103 i v) 57 j = sI S 57 j := fun j => ti_sI_ne (by omega)
  have q2 : sI (wI S 103 i v) 89 = sI S 89 := by funext j; exact ti_sI_ne (by omega)
  have q3 : sI (wI S 103 i v) 98 = sI S 98 := by funext j; exact ti_sI_ne (by omega)
  have q4 := cnt_one (f := sI (wI S 103 i v) 103) (g := sI S 103) (i := i) (fun j hj => ti_sI_ne (fun z => hj z.2)) (n := 60) hi
  rw [ti_sI_eq] at q4
  unfold Ph Gf
  rw [q1, q1, q1, q1, q1, q2, q3]
  refine ⟨?_, rfl⟩
  split at q4 <;> split at q4 <;> simp_all <;> omega
theorem bZ_s {T : Nat → Nat} {S : AS} {τ n : Nat} {m : Int} {p : Nat} {i v : Int32} (hT : TI T S) (hp : T p = τ) (h0 : τ ≠ 0) (hk : kd τ = 47) (hl : ln τ = some n) (hi : In 0 m i) (hm : m < n) (h01 : In 0 1 v) : bZ S (some p) i v 47 = some (wI S p i.toNatClampNeg v) := by
  have e := (hT.t1 p (by rw [hp]; exact h0)).2.2.2 n (by rw [hp]; exact hl)
  unfold bZ
  rw [Option.bind_some, if_pos ⟨(Tx.K hT hp h0).trans hk, ⟨hi.1, by rw [e]; exact Int.lt_of_le_of_lt hi.2 hm⟩, In01 h01⟩]
theorem r_bZone {β : Type} {T0 T : Nat → Nat} {w w' : List Nat} {S0 S : AS} {c s τ p : Nat} {x : Option Nat} {i : Int32} {F : AS → Option β} {Q : β → Prop} (hR : Rl T0 w S0 c s T S) (hx : Tx T τ x) (hτ : (τ = 135 ∧ p = 89) ∨ (τ = 151 ∧ p = 103)) (hi : In 0 59 i) (hw : ∀ x ∈ cl τ 0 :: w, x ∈ w') (h : ∀ S', Rl T0 w' S0 (c + 1) s T S' → S' = wI S p i.toNatClampNeg 1 → Ho (F S') Q) : Ho ((bZ S x i (1 : Int32) 47).bind F) Q := by
  have hn := nat_of hi (n := 60) (by decide)
  rcases hτ with ⟨rfl, rfl⟩ | ⟨rfl, rfl⟩
  · obtain ⟨h1, h2, rfl⟩ := sgp hR.1 hx (p := 89) rfl
    rw [bZ_s hR.1 h1 h2 rfl rfl hi (by decide) (by decide)]
    have hb := ph_live S hn 1
    rw [if_pos rfl] at hb
    refine h _ (RlwP (d := 1) (e := 0) hR (TIwI hR.1 h1 (fun _ _ q => by cases q) (fun _ _ _ q => by cases q; decide) (by omega)) h1 (by omega) (by rw [cl_a (by decide)]; exact hw) ?_ ?_ (by have := hR.2.2.2.1.1; omega) hR.2.2.2.1.2.1 (by omega) (by omega)) rfl
    · have := hb.1
      split at this <;> omega
    · have := hb.2
      omega
  · obtain ⟨h1, h2, rfl⟩ := sgp hR.1 hx (p := 103) rfl
    rw [bZ_s hR.1 h1 h2 rfl rfl hi (by decide) (by decide)]
    have hb := ph_good S hn 1
    rw [if_pos rfl] at hb
    refine h _ (RlwP (d := 1) (e := 0) hR (TIwI hR.1 h1 (fun _ _ q => by cases q) (fun _ _ _ q => by cases q; decide) (by omega)) h1 (by omega) (by rw [cl_a (by decide)]; exact hw) ?_ ?_ (by have := hR.2.2.2.1.1; omega) hR.2.2.2.1.2.1 (by omega) (by omega)) rfl
    · have := hb.1
      split at this <;> omega
    · have := hb.2
      omega
/-- a mark is taken back and the end is written down: the bound stays -/
theorem r_kill {β : Type} {T0 T : Nat → Nat} {w w' : List Nat} {S0 S : AS} {c s τ p : Nat} {x y : Option Nat} {i a b : Int32} {F : AS → Option β} {Q : β → Prop} (hR : Rl T0 w S0 c s T S) (hx : Tx T τ x) (hτ : (τ = 135 ∧ p = 89) ∨ (τ = 151 ∧ p = 103)) (hy : Tx T 100 y) (hi : In 0 59 i) (hl : In 1 1 (sI S p i.toNatClampNeg)) (hph : Ph S ≤ 1199) (hw : ∀ x ∈ cl τ 0 :: (kw_wr ++ w), x ∈ w') (h : ∀ S', Rl T0 w' S0 c s T S' → Ho (F S') Q) : Ho ((bZ S x i (0 : Int32) 47).bind fun S1 => (kr_rv S1 39 y).bind fun _ => (f_M_write S1 y a b).bind F) Q := by
  have hn := nat_of hi (n := 60) (by decide)
  have key : ∀ (hp : T p = τ) (h0 : τ ≠ 0) (hb : Ph (wI S p i.toNatClampNeg 0) + (if sI S p i.toNatClampNeg = 1 then 1 else 0) = Ph S + (if (0 : Int32) = 1 then 1 else 0) ∧ Gf (wI S p i.toNatClampNeg 0) = Gf S) (hti : TI T (wI S p i.toNatClampNeg 0)) (hkd : 40 ≤ kd τ) (h20 : ¬ (20 ≤ τ ∧ τ < 27 ∧ i.toNatClampNeg = 2)), Ho ((kr_rv (wI S p i.toNatClampNeg 0) 39 y).bind fun _ => (f_M_write (wI S p i.toNatClampNeg 0) y a b).bind F) Q := by
    intro hp h0 hb hti hkd h20
    have hl1 := In11 hl
    rw [if_pos hl1, if_neg (by decide)] at hb
    have g1 : Rl T0 (cl τ 0 :: w) S0 c s T (wI S p i.toNatClampNeg 0) := RlwP (d := -1) (e := 0) hR hti hp h20 (by rw [cl_a hkd]; exact fun _ z => z) (by omega) (by omega) hR.2.2.2.1.1 hR.2.2.2.1.2.1 (by omega) (by omega)
    have hC1 : sC (wI S p i.toNatClampNeg 0) = sC S := rfl
    generalize wI S p i.toNatClampNeg 0 = S1 at *
    refine r_rv g1.1 hy rfl ?_
    refine r_bind (t_M_write g1.1 hy (by omega)) (fun S' hh => ?_)
    obtain ⟨gw, cw⟩ := hh
    refine h S' (Rlph (c1 := c + 1) (Rltrans (ss := 0) g1 gw (fun z hz => hw z ?_)) ?_ ?_)
    · rcases List.mem_append.mp hz with hz | hz
      · rcases List.mem_cons.mp hz with hz | hz
        · rw [hz]; exact List.mem_cons_self
        · exact List.mem_cons_of_mem _ (List.mem_append_right _ hz)
      · exact List.mem_cons_of_mem _ (List.mem_append_left _ hz)
    · rw [cw, hC1]; exact hR.2.2.2.1.1
    · have h1 := gw.2.2.2.1.2.2.1
      have h2 := hR.2.2.2.1.2.2.1
      omega
  rcases hτ with ⟨rfl, rfl⟩ | ⟨rfl, rfl⟩
  · obtain ⟨h1, h2, rfl⟩ := sgp hR.1 hx (p := 89) rfl
    rw [bZ_s hR.1 h1 h2 rfl rfl hi (by decide) (by decide), Option.bind_some]
    exact key h1 h2 (ph_live S hn 0) (TIwI hR.1 h1 (fun _ _ q => by cases q) (fun _ _ _ q => by cases q; decide) (by omega)) (by decide) (by omega)
  · obtain ⟨h1, h2, rfl⟩ := sgp hR.1 hx (p := 103) rfl
    rw [bZ_s hR.1 h1 h2 rfl rfl hi (by decide) (by decide), Option.bind_some]
    exact key h1 h2 (ph_good S hn 0) (TIwI hR.1 h1 (fun _ _ q => by cases q) (fun _ _ _ q => by cases q; decide) (by omega)) (by decide) (by omega)
theorem fI57 (S : AS) (j : Nat) (v : Int32) : (∀ a, a ≠ j → sI (wI S 57 j v) 57 a = sI S 57 a) ∧ sI (wI S 57 j v) 57 j = v ∧ ∀ k, k ≠ 57 → sI (wI S 57 j v) k = sI S k :=
  ⟨fun a ha => ti_sI_ne (fun z => ha z.2), ti_sI_eq _ _ _ _, fun k hk => by funext b; exact ti_sI_ne (fun z => hk z.1)⟩
/-- one more session, written down -/
theorem r_sesw {β : Type} {T0 T : Nat → Nat} {w w' : List Nat} {S0 S : AS} {c s : Nat} {x y : Option Nat} {v a b : Int32} {F : AS → Option β} {Q : β → Prop} (hR : Rl T0 w S0 (c + 1) s T S) (hC : sC S ≤ sC S0 + c) (hx : Tx T 100 x) (hy : Tx T 100 y) (hv : In 0 59 v) (e : v = sI S 57 30) (hph : Ph S ≤ 1199) (hw : ∀ x ∈ cl 100 30 :: (kw_wr ++ w), x ∈ w') (h : ∀ S', Rl T0 w' S0 c s T S' → Ho (F S') Q) : Ho ((pI S 39 30 x (v + (1 : Int32))).bind fun S1 => (kr_rv S1 39 y).bind fun _ => (f_M_write S1 y a b).bind F) Q := by
  obtain ⟨h57, -, rfl⟩ := sgp hR.1 hx (p := 57) rfl
  rw [ti_pI (κ := 39) ((Tx.K hR.1 h57 (by decide)).trans rfl), Option.bind_some]
  have i12 : In 0 60 (v + 1) := In_w (In_add hv (by decide : In 1 1 (1 : Int32)) (by decide) (by decide)) (by decide) (by decide)
  have t12 := toInt_add1 hv (by decide) (by decide)
  have hti : TI T (wI S 57 30 (v + 1)) := TIwI hR.1 h57 (fun _ _ q => by cases q; exact i12) (fun _ _ _ q => by cases q) (by decide)
  obtain ⟨q1, q2, q3⟩ := fI57 S 30 (v + 1)
  have hP : Ph (wI S 57 30 (v + 1)) = Ph S - 2 := by
    unfold Ph
    rw [q2, q1 77 (by decide), q1 46 (by decide), q1 62 (by decide), q3 89 (by decide), q3 103 (by decide), t12, ← e]
    omega
  have hG : Gf (wI S 57 30 (v + 1)) = Gf S := by
    unfold Gf
    rw [q1 46 (by decide), q1 39 (by decide), q3 98 (by decide)]
  have g1 : Rl T0 (cl 100 30 :: w) S0 c s T (wI S 57 30 (v + 1)) := RlwP (d := -2) (e := 0) hR hti h57 (by decide) (fun _ z => z) (by omega) (by omega) hC hR.2.2.2.1.2.1 (by omega) (by omega)
  have hC1 : sC (wI S 57 30 (v + 1)) = sC S := rfl
  clear q1 q2 q3 hG
  generalize wI S 57 30 (v + 1) = S1 at *
  refine r_rv g1.1 hy rfl ?_
  refine r_bind (t_M_write g1.1 hy (by omega)) (fun S' hh => ?_)
  obtain ⟨gw, cw⟩ := hh
  refine h S' (Rlph (c1 := c + 1) (Rltrans (ss := 0) g1 gw (fun z hz => hw z ?_)) ?_ ?_)
  · rcases List.mem_append.mp hz with hz | hz
    · rcases List.mem_cons.mp hz with hz | hz
      · rw [hz]; exact List.mem_cons_self
      · exact List.mem_cons_of_mem _ (List.mem_append_right _ hz)
    · exact List.mem_cons_of_mem _ (List.mem_append_left _ hz)
  · rw [cw, hC1]; exact hC
  · have h1 := gw.2.2.2.1.2.2.1
    have h2 := hR.2.2.2.1.2.2.1
    omega
theorem gf_cod (S : AS) {i : Nat} (hi : i < 60) (v : Int32) : Gf (wI S 98 i v) + (if sI S 98 i = -1 then 1 else 0) = Gf S + (if v = -1 then 1 else 0) ∧ Ph (wI S 98 i v) = Ph S := by
  have q1 : ∀ j, sI (wI S 98 i v) 57 j = sI S 57 j := fun j => ti_sI_ne (by omega)
  have q2 : sI (wI S 98 i v) 89 = sI S 89 := by funext j; exact ti_sI_ne (by omega)
  have q3 : sI (wI S 98 i v) 103 = sI S 103 := by funext j; exact ti_sI_ne (by omega)
  have q4 := cnm_one (f := sI (wI S 98 i v) 98) (g := sI S 98) (i := i) (fun j hj => ti_sI_ne (fun z => hj z.2)) (n := 60) hi
  rw [ti_sI_eq] at q4
  unfold Ph Gf
  rw [q1, q1, q1, q1, q1, q2, q3]
  refine ⟨?_, rfl⟩
  split at q4 <;> split at q4 <;> simp_all <;> omega
theorem bI_t {T : Nat → Nat} {S : AS} {τ n : Nat} {m : Int} {p : Nat} {i v : Int32} (hT : TI T S) (hp : T p = τ) (h0 : τ ≠ 0) (hk : kd τ = 46) (hl : ln τ = some n) (hi : In 0 m i) (hm : m < n) : bI S (some p) i v 46 = some (wI S p i.toNatClampNeg v) := by
  have e := (hT.t1 p (by rw [hp]; exact h0)).2.2.2 n (by rw [hp]; exact hl)
  unfold bI
  rw [Option.bind_some, if_pos ⟨(Tx.K hT hp h0).trans hk, hi.1, by rw [e]; exact Int.lt_of_le_of_lt hi.2 hm⟩]
/-- a code that waits is counted, then the codes -/
theorem r_codm {β : Type} {T0 T : Nat → Nat} {w w' : List Nat} {S0 S : AS} {c s : Nat} {x : Option Nat} {i : Int32} {F : AS → Option β} {Q : β → Prop} (hR : Rl T0 w S0 c s T S) (hx : Tx T 145 x) (hi : In 0 59 i) (hw : ∀ x ∈ cl 145 0 :: w, x ∈ w') (h : ∀ S', Rl T0 w' S0 c (s + 1) T S' → S' = wI S 98 i.toNatClampNeg (-1) → Ho (F S') Q) : Ho ((bI S x i (-1 : Int32) 46).bind F) Q := by
  have hn := nat_of hi (n := 60) (by decide)
  obtain ⟨h1, h2, rfl⟩ := sgp hR.1 hx (p := 98) rfl
  rw [bI_t hR.1 h1 h2 rfl rfl hi (by decide)]
  have hb := gf_cod S hn (-1)
  rw [if_pos rfl] at hb
  refine h _ (RlwP (d := 0) (e := 1) hR (TIwI hR.1 h1 (fun _ _ q => by cases q) (fun _ _ _ q => by cases q; decide) (by omega)) h1 (by omega) (by rw [cl_a (by decide)]; exact hw) ?_ ?_ hR.2.2.2.1.1 (by have := hR.2.2.2.1.2.1; omega) (by omega) (by omega)) rfl
  · have := hb.2
    omega
  · have := hb.1
    split at this <;> omega
theorem r_codp {β : Type} {T0 T : Nat → Nat} {w w' : List Nat} {S0 S : AS} {c s : Nat} {x : Option Nat} {v : Int32} {F : AS → Option β} {Q : β → Prop} (hR : Rl T0 w S0 c (s + 1) T S) (hS : sS S ≤ sS S0 + s) (hx : Tx T 100 x) (hv : In 0 59 v) (e : v = sI S 57 39) (hw : ∀ x ∈ cl 100 39 :: w, x ∈ w') (h : ∀ S', Rl T0 w' S0 c s T S' → Ho (F S') Q) : Ho ((pI S 39 39 x (v + (1 : Int32))).bind F) Q := by
  obtain ⟨h57, -, rfl⟩ := sgp hR.1 hx (p := 57) rfl
  rw [ti_pI (κ := 39) ((Tx.K hR.1 h57 (by decide)).trans rfl), Option.bind_some]
  have i12 : In 0 60 (v + 1) := In_w (In_add hv (by decide : In 1 1 (1 : Int32)) (by decide) (by decide)) (by decide) (by decide)
  have t12 := toInt_add1 hv (by decide) (by decide)
  have hti : TI T (wI S 57 39 (v + 1)) := TIwI hR.1 h57 (fun _ _ q => by cases q; exact i12) (fun _ _ _ q => by cases q) (by decide)
  obtain ⟨q1, q2, q3⟩ := fI57 S 39 (v + 1)
  refine h _ (RlwP (d := 0) (e := -1) hR hti h57 (by decide) hw ?_ ?_ hR.2.2.2.1.1 hS (by omega) (by omega))
  · unfold Ph
    rw [q1 30 (by decide), q1 77 (by decide), q1 46 (by decide), q1 62 (by decide), q3 89 (by decide), q3 103 (by decide)]
    omega
  · unfold Gf
    rw [q2, q1 46 (by decide), q3 98 (by decide), t12, ← e]
    omega
theorem nwr {j : Nat} (hj : j < 100 ∧ ¬ (j = 77 ∨ j = 81)) : ¬ cl 100 j ∈ kw_wr := by
  intro hm
  rw [show cl 100 j = 10000 + j from if_pos (by decide)] at hm
  simp only [kw_wr, List.mem_cons, List.not_mem_nil, or_false] at hm
  omega
/-- a family is made of a code that waits -/
theorem r_redw {β : Type} {T0 T : Nat → Nat} {w w' : List Nat} {S0 S : AS} {c s : Nat} {x y u : Option Nat} {i f a b : Int32} {F : AS → Option β} {Q : β → Prop} (hR : Rl T0 w S0 (c + 1) s T S) (hC : sC S ≤ sC S0 + c) (hx : Tx T 145 x) (hy : Tx T 100 y) (hu : Tx T 100 u) (hi : In 0 59 i) (hf : In 0 59 f) (hfe : f = sI S 57 46) (hold : In (-1) (-1) (sI S 98 i.toNatClampNeg)) (hph : Ph S ≤ 1190) (hw : ∀ x ∈ cl 145 0 :: cl 100 46 :: (kw_wr ++ w), x ∈ w') (h : ∀ S', Rl T0 w' S0 c s T S' → (∀ j, (j < 100 ∧ ¬ (j = 46 ∨ j = 77 ∨ j = 81)) → sI S' 57 j = sI S 57 j) → Ho (F S') Q) : Ho ((bI S x i f 46).bind fun S1 => (gI S1 39 46 y).bind fun v => (pI S1 39 46 y (v + (1 : Int32))).bind fun S2 => (kr_rv S2 39 u).bind fun _ => (f_M_write S2 u a b).bind F) Q := by
  have hn := nat_of hi (n := 60) (by decide)
  obtain ⟨h1, h2, rfl⟩ := sgp hR.1 hx (p := 98) rfl
  rw [bI_t hR.1 h1 h2 rfl rfl hi (by decide), Option.bind_some]
  have hb := gf_cod S hn f
  have ho : sI S 98 i.toNatClampNeg = -1 := by
    obtain ⟨z1, z2⟩ := hold
    exact Int32.toInt_inj.mp (by rw [show (-1 : Int32).toInt = -1 from by decide]; omega)
  have hfn : ¬ f = -1 := fun q => by
    have := hf.1
    rw [q, show (-1 : Int32).toInt = -1 from by decide] at this
    omega
  rw [if_pos ho, if_neg hfn] at hb
  have f1 : sI (wI S 98 i.toNatClampNeg f) 57 46 = f := (ti_sI_ne (by omega)).trans hfe.symm
  have g1 : Rl T0 (cl 145 0 :: w) S0 (c + 1) s T (wI S 98 i.toNatClampNeg f) := RlwP (d := 0) (e := -1) hR (TIwI hR.1 h1 (fun _ _ q => by cases q) (fun _ _ _ q => by cases q; exact In_w hf (by decide) (by decide)) (by omega)) h1 (by omega) (by rw [cl_a (by decide)]; exact fun _ z => z) (by omega) (by omega) (by have := hR.2.2.2.1.1; omega) hR.2.2.2.1.2.1 (by omega) (by omega)
  have hC1 : sC (wI S 98 i.toNatClampNeg f) = sC S := rfl
  have hF1 : ∀ j, sI (wI S 98 i.toNatClampNeg f) 57 j = sI S 57 j := fun j => ti_sI_ne (by omega)
  have hS1 : sS (wI S 98 i.toNatClampNeg f) = sS S := rfl
  generalize wI S 98 i.toNatClampNeg f = S1 at *
  refine r_gIs g1.1 hy rfl (p := 57) rfl (fun v _ ev => ?_)
  have evf : v = f := ev.trans f1
  subst evf
  obtain ⟨h57, -, rfl⟩ := sgp g1.1 hy (p := 57) rfl
  rw [ti_pI (κ := 39) ((Tx.K g1.1 h57 (by decide)).trans rfl), Option.bind_some]
  have i12 : In 0 60 (v + 1) := In_w (In_add hf (by decide : In 1 1 (1 : Int32)) (by decide) (by decide)) (by decide) (by decide)
  have t12 := toInt_add1 hf (by decide) (by decide)
  have hti : TI T (wI S1 57 46 (v + 1)) := TIwI g1.1 h57 (fun _ _ q => by cases q; exact i12) (fun _ _ _ q => by cases q) (by decide)
  obtain ⟨q1, q2, q3⟩ := fI57 S1 46 (v + 1)
  have hP : Ph (wI S1 57 46 (v + 1)) = Ph S1 - 2 := by
    unfold Ph
    rw [q2, q1 77 (by decide), q1 30 (by decide), q1 62 (by decide), q3 89 (by decide), q3 103 (by decide), t12, ← ev]
    omega
  have hG : Gf (wI S1 57 46 (v + 1)) = Gf S1 + 1 := by
    unfold Gf
    rw [q2, q1 39 (by decide), q3 98 (by decide), t12, ← ev]
    omega
  have hs := hR.2.2.2.1.2.2.2
  have hs2 := hR.2.2.2.1.2.2.1
  have g2 : Rl T0 (cl 100 46 :: cl 145 0 :: w) S0 c (s + 1) T (wI S1 57 46 (v + 1)) := RlwP (d := -2) (e := 1) g1 hti h57 (by decide) (fun _ z => z) (by omega) (by omega) (by omega) (by have := g1.2.2.2.1.2.1; omega) (by omega) (by omega)
  have hC2 : sC (wI S1 57 46 (v + 1)) = sC S1 := rfl
  have hS2 : sS (wI S1 57 46 (v + 1)) = sS S1 := rfl
  have hF2 : ∀ j, j ≠ 46 → sI (wI S1 57 46 (v + 1)) 57 j = sI S1 57 j := q1
  clear q1 q2 q3
  generalize wI S1 57 46 (v + 1) = S2 at *
  refine r_rv g2.1 hu rfl ?_
  refine r_bind (t_M_write g2.1 hu (by omega)) (fun S' hh => ?_)
  obtain ⟨gw, cw⟩ := hh
  refine h S' (Rlgf (s1 := s + 1) (Rlph (c1 := c + 1) (Rltrans (ss := 0) g2 gw (fun z hz => hw z ?_)) ?_ ?_) ?_ ?_) (fun j hj => ?_)
  · rcases List.mem_append.mp hz with hz | hz
    · rcases List.mem_cons.mp hz with hz | hz
      · rw [hz]; exact List.mem_cons_of_mem _ List.mem_cons_self
      · rcases List.mem_cons.mp hz with hz | hz
        · rw [hz]; exact List.mem_cons_self
        · exact List.mem_cons_of_mem _ (List.mem_cons_of_mem _ (List.mem_append_right _ hz))
    · exact List.mem_cons_of_mem _ (List.mem_cons_of_mem _ (List.mem_append_left _ hz))
  · rw [cw, hC2, hC1]; exact hC
  · have h1 := gw.2.2.2.1.2.2.1
    omega
  · have h1 := gw.2.2.2.1.2.1
    have h2 := hR.2.2.2.1.2.1
    omega
  · have h1 := gw.2.2.2.1.2.2.2
    omega
  · rw [gw.fI 57 j (by rw [h57]; decide) (by rw [h57]; exact nwr (by omega)), hF2 j (by omega), hF1]
theorem fam_lt {T : Nat → Nat} {S : AS} {i : Int32} (hT : TI T S) (hg : Gf S ≤ 0) (hi : In 0 59 i) (ho : In (-1) (-1) (sI S 98 i.toNatClampNeg)) : In 0 59 (sI S 57 46) := by
  obtain ⟨-, -, -, h3, h4⟩ := ent_le hT
  have hold : sI S 98 i.toNatClampNeg = -1 := by
    obtain ⟨z1, z2⟩ := ho
    exact Int32.toInt_inj.mp (by rw [show (-1 : Int32).toInt = -1 from by decide]; omega)
  have := cnm_pos (f := sI S 98) hold (n := 60) (nat_of hi (n := 60) (by decide))
  unfold Gf at hg
  have := h4.2
  have := h3.1
  exact ⟨by omega, by omega⟩
/-- the key that waits -/
theorem r_w62 {β : Type} {T0 T : Nat → Nat} {w w' : List Nat} {S0 S : AS} {c s : Nat} {x : Option Nat} {v : Int32} {F : AS → Option β} {Q : β → Prop} (hR : Rl T0 w S0 c s T S) (hx : Tx T 100 x) (hv : In (-1) 19 v) (hw : ∀ x ∈ cl 100 62 :: w, x ∈ w') (h : ∀ S', Rl T0 w' S0 (c + 1) s T S' → S' = wI S 57 62 v → Ho (F S') Q) : Ho ((pI S 39 62 x v).bind F) Q := by
  obtain ⟨h57, -, rfl⟩ := sgp hR.1 hx (p := 57) rfl
  rw [ti_pI (κ := 39) ((Tx.K hR.1 h57 (by decide)).trans rfl), Option.bind_some]
  have hti : TI T (wI S 57 62 v) := TIwI hR.1 h57 (fun _ _ q => by cases q; exact hv) (fun _ _ _ q => by cases q) (by decide)
  obtain ⟨q1, q2, q3⟩ := fI57 S 62 v
  refine h _ (RlwP (d := 1) (e := 0) hR hti h57 (by decide) hw ?_ ?_ (by have := hR.2.2.2.1.1; omega) hR.2.2.2.1.2.1 (by omega) (by omega)) rfl
  · unfold Ph
    rw [q1 30 (by decide), q1 77 (by decide), q1 46 (by decide), q2, q3 89 (by decide), q3 103 (by decide)]
    split <;> split <;> omega
  · unfold Gf
    rw [q1 46 (by decide), q1 39 (by decide), q3 98 (by decide)]
    omega
theorem r_sigw {β : Type} {T0 T : Nat → Nat} {w w' : List Nat} {S0 S : AS} {c s : Nat} {x y u : Option Nat} {a : Int32} {F : AS → Option β} {Q : β → Prop} (hR : Rl T0 w S0 c s T S) (hx : Tx T 100 x) (hy : Tx T 100 y) (hu : Tx T 100 u) (hold : In 0 19 (sI S 57 62)) (hph : Ph S ≤ 1190) (hw : ∀ x ∈ cl 100 62 :: (kw_wr ++ w), x ∈ w') (h : ∀ S', Rl T0 w' S0 c s T S' → Ho (F S') Q) : Ho ((pI S 39 62 x (-1 : Int32)).bind fun S1 => (gI S1 39 61 y).bind fun v => (kr_rv S1 39 u).bind fun _ => (f_M_write S1 u a v).bind F) Q := by
  obtain ⟨h57, -, rfl⟩ := sgp hR.1 hx (p := 57) rfl
  rw [ti_pI (κ := 39) ((Tx.K hR.1 h57 (by decide)).trans rfl), Option.bind_some]
  have hti : TI T (wI S 57 62 (-1)) := TIwI hR.1 h57 (fun _ _ q => by cases q; decide) (fun _ _ _ q => by cases q) (by decide)
  obtain ⟨q1, q2, q3⟩ := fI57 S 62 (-1)
  have ho : ¬ sI S 57 62 = -1 := fun q => by
    have := hold.1
    rw [q, show (-1 : Int32).toInt = -1 from by decide] at this
    omega
  have hP : Ph (wI S 57 62 (-1)) = Ph S - 1 := by
    unfold Ph
    rw [q1 30 (by decide), q1 77 (by decide), q1 46 (by decide), q2, q3 89 (by decide), q3 103 (by decide), if_pos rfl, if_neg ho]
    omega
  have hG : Gf (wI S 57 62 (-1)) = Gf S := by
    unfold Gf
    rw [q1 46 (by decide), q1 39 (by decide), q3 98 (by decide)]
  have g1 : Rl T0 (cl 100 62 :: w) S0 c s T (wI S 57 62 (-1)) := RlwP (d := -1) (e := 0) hR hti h57 (by decide) (fun _ z => z) (by omega) (by omega) hR.2.2.2.1.1 hR.2.2.2.1.2.1 (by omega) (by omega)
  have hC1 : sC (wI S 57 62 (-1)) = sC S := rfl
  clear q1 q2 q3 hG
  generalize wI S 57 62 (-1) = S1 at *
  refine r_gI g1.1 hy rfl (fun v _ => ?_)
  refine r_rv g1.1 hu rfl ?_
  refine r_bind (t_M_write g1.1 hu (by omega)) (fun S' hh => ?_)
  obtain ⟨gw, cw⟩ := hh
  refine h S' (Rlph (c1 := c + 1) (Rltrans (ss := 0) g1 gw (fun z hz => hw z ?_)) ?_ ?_)
  · rcases List.mem_append.mp hz with hz | hz
    · rcases List.mem_cons.mp hz with hz | hz
      · rw [hz]; exact List.mem_cons_self
      · exact List.mem_cons_of_mem _ (List.mem_append_right _ hz)
    · exact List.mem_cons_of_mem _ (List.mem_append_left _ hz)
  · rw [cw, hC1]; exact hR.2.2.2.1.1
  · have h1 := gw.2.2.2.1.2.2.1
    have h2 := hR.2.2.2.1.2.2.1
    omega
/-! plain writes on the only ones, with what they leave -/
theorem r_pIs {β : Type} {T0 T : Nat → Nat} {w w' : List Nat} {S0 S : AS} {c s j : Nat} {x : Option Nat} {v : Int32} {F : AS → Option β} {Q : β → Prop} (hR : Rl T0 w S0 c s T S) (hx : Tx T 100 x) (hv : ∀ lo hi, rf 100 j = some (lo, hi) → In lo hi v) (hw : ∀ x ∈ cl 100 j :: w, x ∈ w') (hp : ¬ phc 100 j) (h : ∀ S', Rl T0 w' S0 c s T S' → S' = wI S 57 j v → Ho (F S') Q) : Ho ((pI S 39 j x v).bind F) Q := by
  obtain ⟨h57, -, rfl⟩ := sgp hR.1 hx (p := 57) rfl
  rw [ti_pI (κ := 39) ((Tx.K hR.1 h57 (by decide)).trans rfl), Option.bind_some]
  exact h _ (RlwI hR (TIwI hR.1 h57 hv (fun _ _ _ q => by cases q) (by omega)) h57 (by omega) hw hp) rfl
theorem r_bIs {β : Type} {T0 T : Nat → Nat} {w w' : List Nat} {S0 S : AS} {c s τ n p : Nat} {m : Int} {x : Option Nat} {i v : Int32} {F : AS → Option β} {Q : β → Prop} (hR : Rl T0 w S0 c s T S) (hx : Tx T τ x) (hk : kd τ = 46) (hs : sg τ = some p) (hl : ln τ = some n) (hi : In 0 m i) (hm : m < n) (hv : ∀ n lo hi, ra τ = some (n, lo, hi) → In lo hi v) (hz : ∀ j, rf τ j = none) (hnl : ¬ (20 ≤ τ ∧ τ < 27)) (hw : ∀ x ∈ cl τ 0 :: w, x ∈ w') (hp : ∀ j, ¬ phc τ j) (h : ∀ S', Rl T0 w' S0 c s T S' → S' = wI S p i.toNatClampNeg v → Ho (F S') Q) : Ho ((bI S x i v 46).bind F) Q := by
  obtain ⟨h1, h2, rfl⟩ := sgp hR.1 hx hs
  rw [bI_t hR.1 h1 h2 hk hl hi hm, Option.bind_some]
  exact h _ (RlwI hR (TIwI hR.1 h1 (fun lo hi q => by rw [hz] at q; cases q) hv (fun q => hnl ⟨q.1, q.2.1⟩)) h1 (fun q => hnl ⟨q.1, q.2.1⟩) (by rw [cl_a (by omega)]; exact hw) (hp _)) rfl
theorem r_bZs {β : Type} {T0 T : Nat → Nat} {w w' : List Nat} {S0 S : AS} {c s τ n p : Nat} {m : Int} {x : Option Nat} {i v : Int32} {F : AS → Option β} {Q : β → Prop} (hR : Rl T0 w S0 c s T S) (hx : Tx T τ x) (hk : kd τ = 47) (hs : sg τ = some p) (hl : ln τ = some n) (hi : In 0 m i) (hm : m < n) (h01 : In 0 1 v) (hv : ∀ n lo hi, ra τ = some (n, lo, hi) → In lo hi v) (hz : ∀ j, rf τ j = none) (hnl : ¬ (20 ≤ τ ∧ τ < 27)) (hw : ∀ x ∈ cl τ 0 :: w, x ∈ w') (hp : ∀ j, ¬ phc τ j) (h : ∀ S', Rl T0 w' S0 c s T S' → S' = wI S p i.toNatClampNeg v → Ho (F S') Q) : Ho ((bZ S x i v 47).bind F) Q := by
  obtain ⟨h1, h2, rfl⟩ := sgp hR.1 hx hs
  rw [bZ_s hR.1 h1 h2 hk hl hi hm h01, Option.bind_some]
  exact h _ (RlwI hR (TIwI hR.1 h1 (fun lo hi q => by rw [hz] at q; cases q) hv (fun q => hnl ⟨q.1, q.2.1⟩)) h1 (fun q => hnl ⟨q.1, q.2.1⟩) (by rw [cl_a (by omega)]; exact hw) (hp _)) rfl
theorem In_ne {S S' : AS} {p i q j : Nat} {v : Int32} {lo hi : Int} (e : S' = wI S q j v) (h : ¬ (p = q ∧ i = j)) (g : In lo hi (sI S p i)) : In lo hi (sI S' p i) := by
  rw [e, ti_sI_ne h]
  exact g
theorem In_eqw {S S' : AS} {q j : Nat} {v : Int32} {lo hi : Int} (e : S' = wI S q j v) (g : In lo hi v) : In lo hi (sI S' q j) := by
  rw [e, ti_sI_eq]
  exact g
theorem In_fr {T : Nat → Nat} {w : List Nat} {S S' : AS} {c s τ p j i : Nat} {lo hi : Int} {x : Option Nat} (hR : Rl T w S c s T S') (hx : Tx T 100 x) (hf : ft 100 j = some τ) (hs : sg τ = some p) (hk : 40 ≤ kd τ) (hw : ¬ cl τ 0 ∈ w) (g : In lo hi (sI S p i)) : In lo hi (sI S' p i) := by
  obtain ⟨e1, e2⟩ := sg_p hR.1 hx hf hs
  rw [hR.fI p i (by rw [e1]; exact e2) (by rw [e1, cl_a hk]; exact hw)]
  exact g
theorem In_fr57 {T : Nat → Nat} {w : List Nat} {S S' : AS} {c s i : Nat} {lo hi : Int} {x : Option Nat} (hR : Rl T w S c s T S') (hx : Tx T 100 x) (hw : ¬ cl 100 i ∈ w) (g : In lo hi (sI S 57 i)) : In lo hi (sI S' 57 i) := by
  obtain ⟨e1, e2, -⟩ := sgp hR.1 hx (p := 57) rfl
  rw [hR.fI 57 i (by rw [e1]; exact e2) (by rw [e1]; exact hw)]
  exact g
theorem mod8 : ∀ n, n < 96 → In 0 7 (Int32.ofNat n - Int32.ofNat n / (8 : Int32) * (8 : Int32)) ∧ In 0 11 (Int32.ofNat n / (8 : Int32)) := by decide +kernel
theorem In_mod8 {v : Int32} (h : In 0 95 v) : In 0 7 (v - v / (8 : Int32) * (8 : Int32)) := by
  obtain ⟨a, ha, rfl⟩ := ofNat_In (n := 95) h
  exact (mod8 a ha).1
theorem In_div8 {v : Int32} (h : In 0 95 v) : In 0 11 (v / (8 : Int32)) := by
  obtain ⟨a, ha, rfl⟩ := ofNat_In (n := 95) h
  exact (mod8 a ha).2
theorem shl2 : ∀ n, n < 3 → In 1 4 ((1 : Int32) <<< (Int32.ofNat n &&& 31)) := by decide +kernel
theorem In_shl2 {v : Int32} (h : In 0 2 v) : In 1 4 ((1 : Int32) <<< (v &&& 31)) := by
  obtain ⟨a, ha, rfl⟩ := ofNat_In (n := 2) h
  exact shl2 a ha
