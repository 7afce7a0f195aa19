/-! ===== the first-hand token of a family ===== -/
theorem p_of_l {α : Type} {x : Option α} {P : α → Prop} (h : H2 x (some ()) (fun a _ => P a)) : Hp x P := fun a ha => h a () ha rfl
theorem p_fht {S : AS} {g d n to : Nat} {frm sc key now : Int32} (k4 : K4F S) (hs : sI S 24 2 = Int32.ofNat n) (hr : sR S 24 1 = some d) (hn : n < 201) (hL : sL S d ≤ 400) (h4 : 4 < sN S) (h24 : 24 < sN S) (h25 : 25 < sN S) (hd : d < sN S) (hd24 : d ≠ 24) (hd4 : d ≠ 4) (hg : g < sN S) (hg24 : g ≠ 24)
    (e1 : sI S g 1 = frm) (e2 : sI S g 2 = Int32.ofNat to) (e3 : sI S g 3 = sc) (ek : sI S 25 1 = key) (en : sI S 4 0 = now) : Hp (f_K_addFirstHandToken S (some 4) (some g)) (fun S' => TKK S S' g d n to frm sc 0 key (now + 10)) := by
  have f1 : ∀ k, k < sN S → sI (nO S 21) k = sI S k ∧ sR (nO S 21) k = sR S k ∧ sL (nO S 21) k = sL S k := fun k hk => nO_f S 21 (by omega)
  unfold f_K_addFirstHandToken
  refine p_of st_nO (p_of (st_gIe (v := frm) (by rw [(f1 g hg).1]; exact e1)) (p_of (st_gIe (v := Int32.ofNat to) (by rw [(f1 g hg).1]; exact e2)) (p_of (st_gIe (v := sc) (by rw [(f1 g hg).1]; exact e3)) ?_)))
  refine p_of (st_gRe (v := some 25) (by rw [(f1 4 h4).2.1]; exact k4.1 15 25 rfl)) (p_of (st_gIe (v := key) (by rw [(f1 25 h25).1]; exact ek)) (p_of (st_gIe (v := now) (by rw [(f1 4 h4).1]; exact en)) ?_))
  exact p_of_l (l_tok (k4.1 14 24 rfl) hs hr hn hL h4 h24 hd hd24 hd4 hg hg24 (fun S' tk => h2_ret tk))
theorem p_ftM {m : AS} {f c n to : Nat} {frm sc : Int32} (hmf : MF m) (hn : n < 200) (hf : f < 60) (hc : c < 60) (h52 : sI m 57 52 = Int32.ofNat n) (e99 : sI m 99 f = Int32.ofNat c) (e94 : sI m 94 c = frm) (e95 : sI m 95 c = Int32.ofNat to) (e96 : sI m 96 c = sc) : Hp (f_M_firstToken m (some 57) (Int32.ofNat f)) (fun m' => TKM m m' f n to frm sc 0 (sI m 57 0 + 10)) := by
  unfold f_M_firstToken
  refine p_of (st_gRe (hmf 47 99 rfl)) (p_of (st_aIe (oc (by omega)) e99) (p_of (st_gRe (hmf 41 94 rfl)) (p_of (st_aIe (oc (by omega)) e94) (p_of (st_gRe (hmf 42 95 rfl)) (p_of (st_aIe (oc (by omega)) e95) ?_)))))
  refine p_of (st_gRe (hmf 43 96 rfl)) (p_of (st_aIe (oc (by omega)) e96) (p_of st_gI (p_of st_rv ?_)))
  exact p_b2 (p_tokM hmf hn hf h52) (fun v S' p => p_ret p.2)
