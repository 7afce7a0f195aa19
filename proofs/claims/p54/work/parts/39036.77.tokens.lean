/-! ===== a token is made and put to the others ===== -/
theorem p_tkI {S1 : AS} {z : Nat} {g : Option Nat} {a b c d e f : Int32} : Hp (f_Token_init S1 (some z) g a b c d e f) (fun S' => S' = wI (wI (wI (wI (wI (wI (wR S1 z 0 g) z 1 a) z 2 b) z 3 c) z 4 d) z 5 e) z 6 f) := by
  unfold f_Token_init
  exact p_of st_val (p_of st_pR (p_of st_pI (p_of st_pI (p_of st_pI (p_of st_pI (p_of st_pI (p_of st_pI (p_ret rfl))))))))
/-- what a new token leaves in the class -/
def TKK (S S' : AS) (g d n to : Nat) (frm sc gen key un : Int32) : Prop :=
  (∀ k j, k < sN S → ¬ (k = 24 ∧ (j = 0 ∨ j = 2)) → ¬ (k = g ∧ (j = 9 ∨ j = 10)) → sI S' k j = sI S k j) ∧
  (∀ k j, k < sN S → ¬ (k = 24 ∧ j = 1) → ¬ (k = d ∧ j = n) → sR S' k j = sR S k j) ∧
  sI S' 24 2 = Int32.ofNat (n + 1) ∧ ((∀ i, i < n → lel S' 24 i = lel S 24 i) ∧ lel S' 24 n = sN S) ∧
  (sR S' (sN S) 0 = some g ∧ sI S' (sN S) 1 = frm ∧ sI S' (sN S) 2 = Int32.ofNat to ∧ sI S' (sN S) 3 = sc ∧ sI S' (sN S) 4 = gen ∧ sI S' (sN S) 5 = key ∧ sI S' (sN S) 6 = un) ∧
  sI S' g 9 = Int32.ofNat n ∧ sI S' g 10 = (sI S g 10 ||| ((1 : Int32) <<< (Int32.ofNat to &&& 31)))
theorem l_tok {S : AS} {g d n to : Nat} {frm sc gen key un : Int32} {α β : Type} {F : AS → Option α} {y : Option β} {Q : α → β → Prop} (k4 : sR S 4 14 = some 24) (hs : sI S 24 2 = Int32.ofNat n) (hr : sR S 24 1 = some d) (hn : n < 201) (hL : sL S d ≤ 400) (h4 : 4 < sN S) (h24 : 24 < sN S) (hd : d < sN S) (hd24 : d ≠ 24) (hd4 : d ≠ 4) (hg : g < sN S) (hg24 : g ≠ 24)
    (H : ∀ S', TKK S S' g d n to frm sc gen key un → H2 (F S') y Q) :
    H2 ((f_Token_init (nO S 21) (some (sN S)) (some g) frm (Int32.ofNat to) sc gen key un).bind fun S8 => (kr_rv S8 22 (some 4)).bind fun _ => (f_K_addToken S8 (some 4) (some (sN S))).bind F) y Q := by
  have f1 : ∀ k, k < sN S → sI (nO S 21) k = sI S k ∧ sR (nO S 21) k = sR S k ∧ sL (nO S 21) k = sL S k := fun k hk => nO_f S 21 (by omega)
  refine l_pd p_tkI (fun S8 e8 => l_of st_rv ?_)
  have e8 : S8 = _ := e8
  have N8 : sN S8 = sN S + 1 := by
    rw [e8]
    rfl
  have f8 : ∀ k, k < sN S → (∀ j, sI S8 k j = sI S k j) ∧ (∀ j, sR S8 k j = sR S k j) ∧ sL S8 k = sL S k := fun k hk => by
    obtain ⟨a1, a2, a3⟩ := f1 k hk
    rw [e8]
    refine ⟨fun j => ?_, fun j => ?_, a3⟩
    · rw [ti_sI_ne (by omega), ti_sI_ne (by omega), ti_sI_ne (by omega), ti_sI_ne (by omega), ti_sI_ne (by omega), ti_sI_ne (by omega)]
      show sI (nO S 21) k j = _
      rw [a1]
    · rw [sR_wI, sR_wI, sR_wI, sR_wI, sR_wI, sR_wI, ti_sR_ne (by omega), a2]
  have z8 : sR S8 (sN S) 0 = some g ∧ sI S8 (sN S) 1 = frm ∧ sI S8 (sN S) 2 = Int32.ofNat to ∧ sI S8 (sN S) 3 = sc ∧ sI S8 (sN S) 4 = gen ∧ sI S8 (sN S) 5 = key ∧ sI S8 (sN S) 6 = un := by
    rw [e8]
    refine ⟨?_, ?_, ?_, ?_, ?_, ?_, ti_sI_eq _ _ _ _⟩
    · rw [sR_wI, sR_wI, sR_wI, sR_wI, sR_wI, sR_wI, ti_sR_eq]
    · rw [ti_sI_ne (by omega), ti_sI_ne (by omega), ti_sI_ne (by omega), ti_sI_ne (by omega), ti_sI_ne (by omega), ti_sI_eq]
    · rw [ti_sI_ne (by omega), ti_sI_ne (by omega), ti_sI_ne (by omega), ti_sI_ne (by omega), ti_sI_eq]
    · rw [ti_sI_ne (by omega), ti_sI_ne (by omega), ti_sI_ne (by omega), ti_sI_eq]
    · rw [ti_sI_ne (by omega), ti_sI_ne (by omega), ti_sI_eq]
    · rw [ti_sI_ne (by omega), ti_sI_eq]
  refine l_pd (P := fun S' => TKK S S' g d n to frm sc gen key un) ?_ H
  unfold f_K_addToken
  refine p_of (st_gRe z8.1) (p_of (st_gRe (v := some 24) (((f8 4 h4).2.1 14).trans k4)) (p_of st_rv (p_of st_size ?_)))
  rw [(f8 24 h24).1 2, hs]
  refine p_of st_pI (p_of (st_gRe (v := some g) z8.1) (p_of (st_gIe (v := sI S g 10) ((ti_sI_ne (by omega)).trans ((f8 g hg).1 10))) (p_of (st_gIe (v := Int32.ofNat to) ((ti_sI_ne (by omega)).trans z8.2.2.1)) (p_of st_pI ?_))))
  obtain ⟨S10, e10⟩ : ∃ S10, S10 = wI (wI S8 g 9 (Int32.ofNat n)) g 10 (sI S g 10 ||| ((1 : Int32) <<< (Int32.ofNat to &&& 31))) := ⟨_, rfl⟩
  rw [← e10]
  have rr : sR S10 = sR S8 := by rw [e10, sR_wI, sR_wI]
  have N10 : sN S10 = sN S + 1 := by
    rw [e10]
    exact N8
  have L10 : sL S10 = sL S8 := by
    rw [e10]
    rfl
  have o10 : ∀ k j, ¬ (k = g ∧ (j = 9 ∨ j = 10)) → sI S10 k j = sI S8 k j := fun k j q => by
    rw [e10, ti_sI_ne (by omega), ti_sI_ne (by omega)]
  have g9 : sI S10 g 9 = Int32.ofNat n := by rw [e10, ti_sI_ne (by omega), ti_sI_eq]
  have g10 : sI S10 g 10 = (sI S g 10 ||| ((1 : Int32) <<< (Int32.ofNat to &&& 31))) := by rw [e10, ti_sI_eq]
  refine p_of (st_gRe (v := some 24) (by rw [rr]; exact ((f8 4 h4).2.1 14).trans k4)) (p_of st_rv (p_b2 (p_add (S := S10) (l := 24) (d := d) (x := sN S) (n := n) (by rw [rr, (f8 24 h24).2.1]; exact hr) (by rw [o10 24 2 (by omega), (f8 24 h24).1]; exact hs) hn (by rw [L10, (f8 d hd).2.2]; exact hL) (by omega) (by omega) hd24) (fun v S13 p => p_ret ?_)))
  obtain ⟨p1, p2, p3, p4, p5⟩ := p
  have zI : ∀ j, sI S13 (sN S) j = sI S8 (sN S) j := fun j => (p1 _ j (by omega) (by omega)).trans (o10 _ j (by omega))
  refine ⟨fun k j hk q1 q2 => ?_, fun k j hk q1 q2 => ?_, p2, ⟨fun i hi => ?_, ?_⟩, ⟨?_, ?_, ?_, ?_, ?_, ?_, ?_⟩, ?_, ?_⟩
  · exact (p1 k j (by omega) q1).trans ((o10 k j q2).trans ((f8 k hk).1 j))
  · exact (p3 k j (by omega) q1 q2).trans ((congrFun (congrFun rr k) j).trans ((f8 k hk).2.1 j))
  · have e : sR S13 ((sR S13 24 1).getD 0) i = sR S10 d i := p4 i hi
    unfold lel
    rw [e, rr, (f8 d hd).2.1, hr]
    rfl
  · have e : sR S13 ((sR S13 24 1).getD 0) n = some (sN S) := p5
    unfold lel
    rw [e]
    rfl
  · exact (p3 _ 0 (by omega) (by omega) (by omega)).trans ((congrFun (congrFun rr _) _).trans z8.1)
  · exact (zI 1).trans z8.2.1
  · exact (zI 2).trans z8.2.2.1
  · exact (zI 3).trans z8.2.2.2.1
  · exact (zI 4).trans z8.2.2.2.2.1
  · exact (zI 5).trans z8.2.2.2.2.2.1
  · exact (zI 6).trans z8.2.2.2.2.2.2
  · exact (p1 g 9 (by omega) (by omega)).trans g9
  · exact (p1 g 10 (by omega) (by omega)).trans g10
/-- and in the reference -/
def TKM (m m' : AS) (f n to : Nat) (frm sc gen un : Int32) : Prop :=
  (sR m' = sR m ∧ sL m' = sL m ∧ ∀ q j, ¬ ((q = 104 ∨ q = 105 ∨ q = 106 ∨ q = 107 ∨ q = 108 ∨ q = 109 ∨ q = 110) ∧ j = n) → ¬ (q = 102 ∧ j = f) → ¬ (q = 57 ∧ j = 52) → sI m' q j = sI m q j) ∧
  sI m' 108 n = Int32.ofNat f ∧ sI m' 104 n = frm ∧ sI m' 105 n = Int32.ofNat to ∧ sI m' 106 n = sc ∧ sI m' 107 n = gen ∧ sI m' 110 n = un ∧ sI m' 109 n = sI m 57 61 ∧ sI m' 102 f = Int32.ofNat n ∧ sI m' 57 52 = Int32.ofNat (n + 1)
theorem p_tokM {m : AS} {f n to : Nat} {frm sc gen un : Int32} (hmf : MF m) (hn : n < 200) (hf : f < 60) (h52 : sI m 57 52 = Int32.ofNat n) : Hp (f_M_newToken m (some 57) (Int32.ofNat f) frm (Int32.ofNat to) sc gen un) (fun q => q.1 = Int32.ofNat n ∧ TKM m q.2 f n to frm sc gen un) := by
  have on : (Int32.ofNat n).toNatClampNeg = n := oc (by omega)
  unfold f_M_newToken
  refine p_of (st_gIe h52) (p_of (st_gRe (hmf 57 108 rfl)) (p_of (st_bIe on) (p_of (st_gRe (v := some 104) (hmf 53 104 rfl)) (p_of (st_bIe on) (p_of (st_gRe (v := some 105) (hmf 54 105 rfl)) (p_of (st_bIe on) ?_))))))
  refine p_of (st_gRe (v := some 106) (hmf 55 106 rfl)) (p_of (st_bIe on) (p_of (st_gRe (v := some 107) (hmf 56 107 rfl)) (p_of (st_bIe on) (p_of (st_gRe (v := some 110) (hmf 59 110 rfl)) (p_of (st_bIe on) ?_)))))
  obtain ⟨m1, e1⟩ : ∃ m1, m1 = wI (wI (wI (wI (wI (wI m 108 n (Int32.ofNat f)) 104 n frm) 105 n (Int32.ofNat to)) 106 n sc) 107 n gen) 110 n un := ⟨_, rfl⟩
  rw [← e1]
  have r1 : sR m1 = sR m := by rw [e1]; rfl
  have l1 : sL m1 = sL m := by rw [e1]; rfl
  have o1' : ∀ q j, ¬ ((q = 104 ∨ q = 105 ∨ q = 106 ∨ q = 107 ∨ q = 108 ∨ q = 110) ∧ j = n) → sI m1 q j = sI m q j := fun q j z => by
    rw [e1, ti_sI_ne (by omega), ti_sI_ne (by omega), ti_sI_ne (by omega), ti_sI_ne (by omega), ti_sI_ne (by omega), ti_sI_ne (by omega)]
  have hm1 := MF_e hmf r1
  refine p_of (st_gRe (hm1 58 109 rfl)) (p_of (st_gIe (v := sI m 57 61) (o1' _ _ (by omega))) (p_of (st_bIe on) (p_of (st_gRe (v := some 102) (hm1 50 102 rfl)) (p_of (st_bIe (oc (by omega))) (p_of (st_gIe (v := Int32.ofNat n) ((ti_sI_ne (by omega)).trans ((ti_sI_ne (by omega)).trans ((o1' _ _ (by omega)).trans h52)))) (p_of st_pI (p_ret ⟨rfl, ?_⟩)))))))
  rw [o1]
  refine ⟨⟨r1, l1, fun q j z1 z2 z3 => ?_⟩, ?_, ?_, ?_, ?_, ?_, ?_, ?_, ?_, ti_sI_eq _ _ _ _⟩
  · show sI (wI (wI (wI m1 109 n (sI m 57 61)) 102 f (Int32.ofNat n)) 57 52 (Int32.ofNat (n + 1))) q j = _
    rw [ti_sI_ne z3, ti_sI_ne z2, ti_sI_ne (by omega), o1' q j (by omega)]
  all_goals show sI (wI (wI (wI m1 109 n (sI m 57 61)) 102 f (Int32.ofNat n)) 57 52 (Int32.ofNat (n + 1))) _ _ = _
  · rw [ti_sI_ne (by omega), ti_sI_ne (by omega), ti_sI_ne (by omega), e1, ti_sI_ne (by omega), ti_sI_ne (by omega), ti_sI_ne (by omega), ti_sI_ne (by omega), ti_sI_ne (by omega), ti_sI_eq]
  · rw [ti_sI_ne (by omega), ti_sI_ne (by omega), ti_sI_ne (by omega), e1, ti_sI_ne (by omega), ti_sI_ne (by omega), ti_sI_ne (by omega), ti_sI_ne (by omega), ti_sI_eq]
  · rw [ti_sI_ne (by omega), ti_sI_ne (by omega), ti_sI_ne (by omega), e1, ti_sI_ne (by omega), ti_sI_ne (by omega), ti_sI_ne (by omega), ti_sI_eq]
  · rw [ti_sI_ne (by omega), ti_sI_ne (by omega), ti_sI_ne (by omega), e1, ti_sI_ne (by omega), ti_sI_ne (by omega), ti_sI_eq]
  · rw [ti_sI_ne (by omega), ti_sI_ne (by omega), ti_sI_ne (by omega), e1, ti_sI_ne (by omega), ti_sI_eq]
  · rw [ti_sI_ne (by omega), ti_sI_ne (by omega), ti_sI_ne (by omega), e1, ti_sI_eq]
  · rw [ti_sI_ne (by omega), ti_sI_ne (by omega), ti_sI_eq]
  · rw [ti_sI_ne (by omega), ti_sI_eq]
