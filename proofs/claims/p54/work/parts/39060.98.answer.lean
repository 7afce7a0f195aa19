/-! ===== answer ===== -/
section
variable {T Tm : Nat → Nat} {S m : AS}
/-- the answer is taken: from the state behind it to the masked relation -/
theorem an_mask (hT : TV T S) (hm : TI Tm m) (h : FR S m) {a : Nat} (ha : a < uA m) {S' m' : AS} (bb' : BB T Tm S' m') (kS : Kp T T ka_ANS S S') (kM : Kp Tm Tm ma_ANS m m') (fac : cFac S' m') (wrg : cWrg S' m') (ash : cAsh S' m') (ssh : cSsh S' m') (au : cAU S' m')
    (oS : ∀ b j, b < uA m → b ≠ a → sI S' (lel S 18 b) j = sI S (lel S 18 b) j) (oM : ∀ q j, (q = 79 ∨ q = 80 ∨ q = 81 ∨ q = 82 ∨ q = 83) → j ≠ a → sI m' q j = sI m q j) (x8 : sI S' (lel S 18 a) 8 = sI m' 82 a) (x9 : sI S' (lel S 18 a) 9 = sI m' 83 a) :
    FR (wI S' (lel S 18 a) 5 2) (wI m' 80 a 2) := by
  have b := FR_BB hT hm h
  have tx := tyA b ha
  obtain ⟨-, t80, -⟩ := md_at hm (j := 25) (p := 80) rfl rfl
  have w1 : ∀ {cs : List Nat}, ¬ 4205 ∈ cs → Kp T T cs S' (wI S' (lel S 18 a) 5 2) := fun q => Kp_wI _ tx (by rw [show cl 42 5 = 4205 by decide]; exact q)
  have w2 : ∀ {cs : List Nat}, ¬ 12500 ∈ cs → Kp Tm Tm cs m' (wI m' 80 a 2) := fun q => Kp_wA _ t80 (by decide) q
  have K1 : Kp T T ka_ANS S (wI S' (lel S 18 a) 5 2) := Kp_tr kS (w1 (by decide))
  have M1 : Kp Tm Tm ma_ANS m (wI m' 80 a 2) := Kp_tr kM (w2 (by decide))
  refine FA_ANS hT hm h K1 M1 (cFac_fr bb' fac (w1 (by decide)) (w2 (by decide))) (cWrg_fr bb' wrg (w1 (by decide)) (w2 (by decide))) (Ast_of (a := a) (asm_mk (Asm_of h.Ast) (enA b M1 (by decide)) ha (fun x hx => lA b K1 (by decide) (by decide) hx) (fun x j hx hxa => ?_) (fun q j hq hj => ?_) (fun j => M1.M hm (j := 23) (p := 78) rfl (by decide) (by decide) j) (fun j => M1.M hm (j := 13) (p := 69) rfl (by decide) (by decide) j) ⟨?_, ?_, ?_, fun z => ?_⟩) (fun z => ?_)) (cAsh_fr bb' ash (w1 (by decide)) (w2 (by decide))) (cSsh_fr bb' ssh (w1 (by decide)) (w2 (by decide))) (cAU_fr bb' au (w1 (by decide)) (w2 (by decide)))
  · rw [ti_sI_ne (fun z => hxa ((h.Att.2 a ha).1 x hx z.1))]
    exact oS x j hx hxa
  · rw [ti_sI_ne (by omega)]
    exact oM q j hq hj
  · rw [ti_sI_eq, ti_sI_eq]
  · rw [ti_sI_ne (by omega), ti_sI_ne (by omega)]
    exact x8
  · rw [ti_sI_ne (by omega), ti_sI_ne (by omega)]
    exact x9
  · rw [ti_sI_eq] at z
    exact absurd z (by decide)
  · rw [ti_sI_eq] at z
    exact absurd z (by decide)
/-- the sizes, by frames -/
theorem BB_fr {T' Tm' : Nat → Nat} {S' m' : AS} (b : BB T Tm S m) (hT' : TV T' S') (hm' : TI Tm' m') (k : Kp T T' [50500, 50900, 51301, 51302, 51309, 1300, 2002, 2102, 2202, 2302, 2402, 2502, 2602] S S') (q : Kp Tm Tm' [10009, 10019, 10030, 10039, 10046, 10052, 10070] m m') : BB T' Tm' S' m' :=
  ⟨hT', cPF_fr b b.2.1 (Kp_sub k (fun z hz => by
    have : z ∈ k_cPF := hz
    revert this
    unfold k_cPF
    intro this
    simp only [List.mem_cons, List.mem_nil_iff, or_false] at this ⊢
    omega)) (Kp_sub q (fun z hz => by cases hz)), hm', fzV b k q (by decide) (by decide), fzA b k q (by decide) (by decide), fzS b k q (by decide) (by decide), fzC b k q (by decide) (by decide), fzF b k q (by decide) (by decide), fzT b k q (by decide) (by decide), fzR b k q (by decide) (by decide)⟩
end
