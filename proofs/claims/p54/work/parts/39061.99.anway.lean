/-! ===== steps inside a bind ===== -/
theorem st_in {α β : Type} {x x' : Option α} {G : α → Option β} (h : Le x x') : Le (x.bind G) (x'.bind G) := fun a ha => by
  cases e : x with
  | none => rw [e] at ha; cases ha
  | some q =>
    rw [e] at ha
    rw [h q e]
    exact ha
theorem st_hp {α β : Type} {x : Option α} {c : α} {F : α → Option β} (h : Hp x (fun a => a = c)) : Le (x.bind F) (F c) := fun a ha => by
  cases e : x with
  | none => rw [e] at ha; cases ha
  | some q =>
    rw [e] at ha
    have : q = c := h q e
    rw [← this]
    exact ha
theorem st_hp2 {α β : Type} {x : Option (α × AS)} {v : α} {S' : AS} {F : α → AS → Option β} (h : Hp x (fun q => q = (v, S'))) : Le (kr_b2 x F) (F v S') := fun a ha => by
  cases e : x with
  | none => rw [e] at ha; cases ha
  | some q =>
    have q2 : q = (v, S') := h q e
    rw [e, q2] at ha
    exact ha
theorem b2_as {α β γ : Type} (x : Option (α × AS)) (F : α → AS → Option β) (G : β → Option γ) : (kr_b2 x F).bind G = kr_b2 x (fun v S => (F v S).bind G) := by
  cases x with
  | none => rfl
  | some q => rfl
section
variable {T Tm : Nat → Nat} {S m : AS}
theorem an_way (bb : BB T Tm S m) {a : Nat} (ha : a < uA m) (hF : FR (wI S (lel S 18 a) 5 2) (wI m 80 a 2)) (e5 : sI S (lel S 18 a) 5 = 0) (e80 : sI m 80 a = 0) (sr : SR m) (ac : AC m) (hph : Ph m ≤ 1150) {v n : Nat} (m78 : sI m 78 a = Int32.ofNat v) (v1 : v < nV m) (h66 : sI m 66 v = Int32.ofNat n) (n12 : n ≤ 12) (fac : cFac S m) (wrg : cWrg S m) (e57 : sI m 57 82 = 0) (r82 : 0 ≤ (sI m 82 a).toInt ∧ (sI m 82 a).toInt ≤ 12) {st : Int32} (hst : st = -1 ∨ ∃ k, k < n ∧ st = Int32.ofNat k) :
    H2 ((f_K_goOn S (some 4) (some (lel S 18 a)) st).bind fun S27 => (f_K_takeAnswer_B114 S27 (some (lel S 18 a))).bind fun S4 => (gI S4 11 5 (some (lel S 18 a))).bind fun v5 => some ((Sum.inl v5 : Int32 ⊕ String), S4)) ((f_M_go m (some 57) (Int32.ofNat a) st).bind fun S37 => f_M_answer_B168 S37 (some 57) (Int32.ofNat a)) (fun x y => AN [eX, eA, eS] x.1 y.1 (sI y.2 57 82) ∧ P_ans x.2 y.2) := by
  obtain ⟨hT, pf, hm, -⟩ := id bb
  have h60 : uA m ≤ 60 := (zA bb).1
  have n8 : nV m ≤ 8 := (zV bb).1
  have m9 : sI m 57 9 = Int32.ofNat (nV m) := (zV bb).2.1
  have tx := tyA bb ha
  have hV : (v : Int) < (sI m 57 9).toInt := by
    rw [m9, oi (by omega)]
    omega
  have hN : (sI m 66 v).toInt = (n : Int) := by rw [h66, oi (by omega)]
  obtain ⟨-, hnx, ρ, hρ⟩ := ac v n hV hN
  have way := h_way hT hm ha hF e5 e80 sr ac (st := st) (fun v' n' hv' _ hn' e1 e2 => by
    have ev : v' = v := oinj (by omega) (by omega) (e1.symm.trans m78)
    subst ev
    have en : n' = n := oinj (by omega) (by omega) (e2.symm.trans h66)
    subst en
    exact hst)
  refine l_bd (fun S19 e19 => m_bd (fun m4 f4 => ?_))
  obtain ⟨⟨pA, pK, pS⟩, gf⟩ := way _ _ e19 f4
  obtain ⟨S19', h19, T39, g39⟩ := t_K_goOn hT.1 (a0 := some 4) (a1 := some (lel S 18 a)) (a2 := st) ⟨_, rfl, hT.1.t9.2.2.2.2.1, by decide⟩ ⟨_, rfl, tx, by decide⟩
  rw [e19] at h19
  cases h19
  obtain ⟨m4', h4, go⟩ := t_M_go hm (x := some 57) (a := Int32.ofNat a) (st := st) (v := v) (n := n) ⟨_, rfl, hm.t9.1, by decide⟩ ⟨by rw [oi (by omega)]; omega, by rw [oi (by omega)]; omega⟩ hph sr (by omega) n12 (by rw [oc (by omega)]; exact m78) hnx hρ hst
  rw [f4] at h4
  cases h4
  have g4 : Rl Tm kw_go m 0 0 Tm m4 := go.1
  have hT19 : TV T39 S19 := ⟨g39.1, (g39.ty 1 (by rw [hT.2]; decide)).trans hT.2⟩
  have kS : ∀ {cs : List Nat}, cs.all (fun z => !kw_K55.contains z) = true → Kp T T39 cs S S19 := fun q => Kp_of g39 q
  have kM : ∀ {cs : List Nat}, cs.all (fun z => !kw_go.contains z) = true → Kp Tm Tm cs m m4 := fun q => Kp_of g4 q
  have el : ∀ b, b < uA m → lel S19 18 b = lel S 18 b := fun b hb => lA bb (kS (cs := [52101, 53100]) (by decide +kernel)) (by decide) (by decide) hb
  have uA4 : uA m4 = uA m := by
    unfold uA
    rw [gf 57 19 (by omega) (by omega)]
  have nV4 : nV m4 = nV m := by
    unfold nV
    rw [gf 57 9 (by omega) (by omega)]
  have bb19 : BB T39 Tm S19 m4 := by
    refine ⟨hT19, cPF_fr bb pf (kS (by decide +kernel)) (Kp_sub (kM (cs := []) rfl) (fun z hz => by cases hz)), g4.1, fzV bb (kS (cs := [2002]) (by decide +kernel)) (kM (cs := [10009]) (by decide +kernel)) (by decide) (by decide), fzA bb (kS (cs := [2102]) (by decide +kernel)) (kM (cs := [10019]) (by decide +kernel)) (by decide) (by decide), pS.2.1.1, pS.2.2.2.2.2.2.1.1, fzF bb (kS (cs := [2402]) (by decide +kernel)) (kM (cs := [10046]) (by decide +kernel)) (by decide) (by decide), fzT bb (kS (cs := [2502]) (by decide +kernel)) (kM (cs := [10052]) (by decide +kernel)) (by decide) (by decide), fzR bb (kS (cs := [2602]) (by decide +kernel)) (kM (cs := [10070]) (by decide +kernel)) (by decide) (by decide)⟩
  have inj : ∀ b, b < uA m → lel S 18 b = lel S 18 a → b = a := fun b hb e => (hF.Att.2 a (by
    show a < uA (wI m 80 a 2)
    unfold uA at ha ⊢
    rw [ti_sI_ne (by omega)]
    exact ha)).1 b (by
    show b < uA (wI m 80 a 2)
    unfold uA at hb ⊢
    rw [ti_sI_ne (by omega)]
    exact hb) e
  have tail := an_tail bb19 (a := a) (by rw [uA4]; exact ha) pA (fun b hb e => by
    rw [uA4] at hb
    rw [el b hb, el a ha] at e
    exact inj b hb e) (cFac_fr bb fac (kS (by decide +kernel)) (kM (by decide +kernel))) (cWrg_fr bb wrg (kS (by decide +kernel)) (kM (by decide +kernel))) pK pS ((gf _ _ (by omega) (by omega)).trans e57) (by rw [gf 82 a (by omega) (by omega)]; exact r82)
  rw [el a ha] at tail
  exact tail
end
