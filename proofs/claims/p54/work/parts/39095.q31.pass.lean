/-! ===== minutes ===== -/
theorem b2_inv {α β : Type} {x : Option (α × AS)} {F : α → AS → Option β} {q : β} (h : kr_b2 x F = some q) : ∃ v S', x = some (v, S') ∧ F v S' = some q := by
  cases e : x with
  | none => rw [e] at h; cases h
  | some z => rw [e] at h; exact ⟨z.1, z.2, rfl, h⟩
theorem bd_inv {α β : Type} {x : Option α} {F : α → Option β} {q : β} (h : x.bind F = some q) : ∃ v, x = some v ∧ F v = some q := by
  cases e : x with
  | none => rw [e] at h; cases h
  | some z => rw [e] at h; exact ⟨z, rfl, h⟩
/-- what the reference's run is at its end -/
theorem p_is {α : Type} {x : Option α} {P : α → Prop} (h : ∀ q, x = some q → P q) : Hp x P := h
theorem x57 {n : Nat} {T : Nat → Nat} {S : AS} (iv : IV n T S) : Tx T 100 (some 57) := ⟨57, rfl, iv.1.t9.1, by decide⟩
theorem LW_QW {ns nc nf nt nk na : Nat} {S m : AS} (h : LW ns nc nf nt nk na S m) (lr : LR S) (mf : MF m) : QW ns nc nf nt nk S m := by
  have sw := LW_SW h lr mf
  obtain ⟨⟨z1, z2, z3, z4, z5, z6⟩, ⟨now, aud, key, hlp⟩, flo, ⟨fac, wrg, kn⟩, ⟨att, ast, ash⟩, ⟨sp, usd, liv, ssh⟩, ⟨cod, cfa, fam, num, god⟩, tok, out, ⟨srv, tol⟩, con⟩ := h
  exact ⟨sw, aud, god, tol, liv, usd, key, out⟩
theorem p_pass_bad {m : AS} : Hp (f_M_pass m (some 57) (0 : Int32)) (fun q => sI q.2 57 82 = Int32.ofNat 1 ∧ GK m q.2) := by
  unfold f_M_pass
  refine p_of (st_b2 (q_isIn m _ _ _)) ?_
  rw [if_neg (c := (1 : Int32) ≤ (0 : Int32) ∧ (0 : Int32) ≤ (600 : Int32)) (by decide)]
  refine p_of (st_T rfl) ?_
  unfold f_M_pass_B31 f_M_pass_B32
  refine p_of st_rv (p_b2 p_mayB (fun v m' q => ?_))
  rw [if_pos rfl] at q
  obtain ⟨q1, q2⟩ := Prod.mk.inj q
  rw [q1, q2]
  exact p_of (st_T rfl) (p_ret ⟨ti_sI_eq _ _ _ _, GK_82 _ _⟩)
theorem p_pass_ok {m : AS} {mm : Nat} (h1 : 1 ≤ mm) (h2 : mm ≤ 600) (hn : mi (sI m 57 0)) (ht : (sI m 57 0).toInt + mm ≤ 30000) : Hp (f_M_pass m (some 57) (Int32.ofNat mm)) (fun q => f_M_pass_L45 kr_FU (wI m 57 82 0) (some 57) (Int32.ofNat mm) 0 0 = some q) := by
  unfold f_M_pass
  refine p_of (st_b2 (q_isIn m _ _ _)) ?_
  rw [if_pos (c := (1 : Int32) ≤ Int32.ofNat mm ∧ Int32.ofNat mm ≤ (600 : Int32)) ⟨(oleq (a := 1) (by omega) (by omega)).mpr h1, (oleq (b := 600) (by omega) (by omega)).mpr h2⟩]
  refine p_of (st_F one0) (p_of (st_gIe rfl) (p_of (st_F (fun q => ?_)) ?_))
  · have := hn.1
    rw [Int32.lt_iff_toInt_lt, Int32.toInt_add, oiq (by omega), show (30000 : Int32).toInt = 30000 from by decide, bm (by omega) (by omega)] at q
    omega
  · unfold f_M_pass_B32
    refine p_of st_rv (p_b2 p_mayB (fun v m' q => ?_))
    rw [if_neg one0, if_neg one0] at q
    obtain ⟨q1, q2⟩ := Prod.mk.inj q
    rw [q1, q2]
    exact p_of (st_F one0) (p_is (fun q h => h))
section
variable {n r : Nat} {T : Nat → Nat} {S : AS}
theorem l_pass (L : L54 n r T S) (hn : n ≤ 200) {y : Int32} : Ho (f_W_sessions S (some 4) (0 : Int32) y (some 127) (some 129) (some 133) (some 134) (some 135) (some 136) (some 137) (some 138) (some 139)) (G54 n r) := by
  obtain ⟨iv, rp, tl, pts, -, ns, nc, nf, nt, nk, na, lw⟩ := id L
  have lr := TL_LR iv.1 tl
  have now : lNow S S := lw.2.1.1
  have fin : ∀ mm, mm ≤ 139 → Ho (f_W_sessions_B35 S (some 4) (some 127) (some 133) (some 135) (some 136) (some 137) (some 138) (some 139) (Int32.ofNat mm)) (G54 n r) := fun mm hmm => by
    unfold f_W_sessions_B35
    by_cases c0 : mm = 0
    · subst c0
      refine r_ifT (by decide) ?_
      unfold f_W_sessions_B47
      refine r_ifT rfl ?_
      unfold f_W_sessions_B78
      obtain ⟨c, v, S1, S2, T1, e1, e2, g, an⟩ := tg_pass (a0 := Int32.ofNat 0) iv (by omega) rp
      have bh := PK_BH L (LF_rf S) g (by decide +kernel) (by decide +kernel) (by decide +kernel)
      obtain ⟨t, o⟩ := p_pass_bad _ e2
      have gk := GK_tr bh.2.2.2.2.2.2.1 o
      exact o_b2 e1 (o_fin (ANc_k an (by decide) 0 rfl t) (BH_L bh (lPN_e pts (fun j => gk 73 j (by omega) (by omega) (by omega)) (gk 57 0 (by omega) (by omega) (by omega))) ⟨_, _, _, _, _, _, LW_cong2 lw bh.2.2.2.2.1 gk⟩))
    · refine r_ifF (fun q => by have := (oleq (a := mm) (b := 0) (by omega) (by omega)).mp q; omega) ?_
      unfold f_W_sessions_B47
      refine r_ifF one0 ?_
      have hp2 := pts.2
      -- the reference from here: the law's minutes have an end
      obtain ⟨q0, e0, -⟩ := mm_pass (a1 := Int32.ofNat mm) iv.1 (x57 iv) iv.2.1 (by have := iv.2.2.1; omega)
      have f0 := p_pass_ok (mm := mm) (by omega) (by omega) now.2 (by omega) _ e0
      have lw0 : LW ns nc nf nt nk na S (wI S 57 82 0) := LW_cong2 lw (fun _ _ _ => rfl) (GK_82 _ _)
      obtain ⟨a, ea, -, -, px0, -⟩ := g_pass_L54 (mm := mm) (by omega) mm 0 kr_FU kr_FU 0 S (wI S 57 82 0) (by omega) (show mm < 2000 by omega) (LW_QW lw0 lr (MF_e (MF_of iv.1) rfl)) (by rw [ti_sI_ne (by omega)]; omega) _ f0
      have la : LF S a.2 := px0.1
      obtain ⟨x, Sa⟩ := a
      have la : LF S Sa := la
      refine o_b2 (v := x) (S' := Sa) ea ?_
      unfold f_W_sessions_B78
      obtain ⟨c, v, S1, S2, T1, e1, e2, g, an⟩ := tg_pass (a0 := Int32.ofNat mm) (LF_IV iv tl la) (by omega) (LF_RPF iv.1 tl rp la)
      have bh := PK_BH L la g (by decide +kernel) (by decide +kernel) (by decide +kernel)
      obtain ⟨-, -, -, -, kS, kS1, kG, mf⟩ := id bh
      obtain ⟨m1, em⟩ : ∃ m1, m1 = wI S1 57 82 0 := ⟨_, rfl⟩
      have gk0 : GK S S1 := GK_tr (LF_GK la) kG
      have gk1 : GK S m1 := GK_tr gk0 (by rw [em]; exact GK_82 _ _)
      have lw1 : LW ns nc nf nt nk na S m1 := LW_cong2 lw (fun _ _ _ => rfl) gk1
      have f1 := p_pass_ok (mm := mm) (by omega) (by omega) (by rw [gk0 57 0 (by omega) (by omega) (by omega)]; exact now.2) (by rw [gk0 57 0 (by omega) (by omega) (by omega)]; omega) _ e2
      rw [← em] at f1
      obtain ⟨a', ea', a1, qw, px, tm⟩ := g_pass_L54 (mm := mm) (by omega) mm 0 kr_FU kr_FU 0 S m1 (by omega) (show mm < 2000 by omega) (LW_QW lw1 lr (MF_e mf (by rw [em]; rfl))) (by rw [gk1 57 0 (by omega) (by omega) (by omega)]; omega) _ f1
      rw [ea] at ea'
      cases ea'
      have a1 : x = v := a1
      obtain ⟨-, o1', ⟨-, -, om⟩⟩ := id px
      have o1' : ∀ p j, ¬ (p = 127 ∧ (j = 0 ∨ j = 6 ∨ j = 7 ∨ j = 9 ∨ j = 10)) → ¬ (p = 136 ∧ j % 5 = 4) → ¬ (p = 139 ∧ j % 4 = 3) → ¬ (p = 133 ∧ j % 4 = 3) → p ≠ 138 → sI Sa p j = sI S p j := o1'
      have om : ∀ p j, p ≠ 89 → p ≠ 103 → p ≠ 112 → p ≠ 116 → p ≠ 123 → p ≠ 124 → p ≠ 125 → ¬ (p = 57 ∧ (j = 0 ∨ j = 61 ∨ j = 62 ∨ j = 77 ∨ j = 81)) → sI S2 p j = sI m1 p j := om
      obtain ⟨⟨-, -, -, -, now2, -⟩, au2, god2, tol2, liv2, -, key2, out2⟩ := qw
      have lw2 : LW ns nc nf nt nk na Sa S2 := LWa_pass lw1 (fun k j h1 h2 h3 => o1' k j (by omega) (by omega) (by omega) (by omega) (by omega)) (fun k j h1 h2 h3 h4 => om k j (by omega) (by omega) (by omega) (by omega) (by omega) (by omega) (by omega) (by omega)) now2 au2 key2 out2 god2 tol2 liv2
      have v82 : sI S2 57 82 = 0 := (om 57 82 (by omega) (by omega) (by omega) (by omega) (by omega) (by omega) (by omega) (by omega)).trans (by rw [em, ti_sI_eq])
      have tm : (sI S2 57 0).toInt = (sI m1 57 0).toInt + (mm : Int) := tm
      rw [gk1 57 0 (by omega) (by omega) (by omega)] at tm
      refine o_b2 e1 (o_fin (by rw [ANc_0 an (by decide) v82, a1]) (BH_L bh ⟨lPts_e pts.1 (fun j => (om 73 j (by omega) (by omega) (by omega) (by omega) (by omega) (by omega) (by omega) (by omega)).trans (gk1 73 j (by omega) (by omega) (by omega))), by omega⟩ ⟨ns, nc, nf, nt, nk, na, LW_cong2 lw2 kS (GK_rf _)⟩))
  unfold f_W_sessions
  refine r_ifT rfl (o_some 6 rfl (by decide) (by decide) (fun v _ => ?_))
  by_cases c : Int32.ofNat v = 0
  · refine r_ifT c (o_some 120 rfl (by decide) (by decide) (fun w hw => ?_))
    rw [show (20 : Int32) + Int32.ofNat w = Int32.ofNat (20 + w) from wadd 20 w]
    exact fin _ (by omega)
  · exact r_ifF c (o_some 7 rfl (by decide) (by decide) (fun w hw => fin _ (by omega)))
end
