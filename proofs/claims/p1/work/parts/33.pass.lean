/-! ===== p1: pass ===== -/
theorem kr_sI_ne {S : AS} {k j a b : Nat} {v : Int32} (h : ¬ (a = k ∧ b = j)) : sI (wI S k j v) a b = sI S a b := by
  show (if a = k ∧ b = j then v else sI S a b) = _
  rw [if_neg h]
theorem kr_wI_wI (S : AS) (k j : Nat) (v w : Int32) : wI (wI S k j v) k j w = wI S k j w := by
  have e : kr_u (sI (wI S k j v)) k j w = kr_u (sI S) k j w := by
    funext a b
    unfold kr_u
    by_cases h : a = k ∧ b = j
    · rw [if_pos h, if_pos h]
    · rw [if_neg h, if_neg h, kr_sI_ne h]
  unfold wI at e ⊢
  exact congrArg (fun f => ((sN S, sK S, sL S, f, sR S, sJ S, sC S, sS S) : AS)) e
theorem kr_wI_id {S : AS} {k j : Nat} {v : Int32} (h : sI S k j = v) : wI S k j v = S := by
  have e : kr_u (sI S) k j v = sI S := by
    funext a b
    unfold kr_u
    by_cases hh : a = k ∧ b = j
    · rw [if_pos hh, hh.1, hh.2, h]
    · rw [if_neg hh]
  exact congrArg (fun f => ((sN S, sK S, sL S, f, sR S, sJ S, sC S, sS S) : AS)) e
theorem kr_le {i n : Nat} (hi : i < 2 ^ 31) (hn : n < 2 ^ 31) : (Int32.ofNat n ≤ Int32.ofNat i) ↔ n ≤ i := Int32.ofNat_le_ofNat hn hi
theorem kr_s1 (i : Nat) : Int32.ofNat i + (1 : Int32) = Int32.ofNat (i + 1) := (Int32.ofNat_add i 1).symm
theorem kr_ne0 {i : Nat} (h : i + 1 < 2 ^ 31) : ¬ (0 : Int32) = Int32.ofNat (i + 1) := fun q => by
  have h1 : Int32.ofNat (i + 1) ≤ Int32.ofNat 0 := by rw [← q]; decide
  have h2 := (kr_le (i := 0) (n := i + 1) (by decide) h).mp h1
  omega
theorem kr_zq : sK kr_Z 4 = 22 ∧ sK kr_Z 25 = 15 ∧ sK kr_Z 26 = 40 ∧ sI kr_Z 4 0 = 0 ∧ sI kr_Z 4 9 = 0 ∧ sR kr_Z 4 15 = some 25 ∧ sI kr_Z 25 2 = -1 ∧ sI kr_Z 25 0 = 1 ∧ sR kr_Z 25 5 = some 26 ∧ sI kr_Z 26 0 = 0 ∧ sL kr_Z 26 = 20 := by decide +kernel
def kr_P (t : Int32) : AS := wI kr_Z 4 0 t
theorem kr_sR_wI (S : AS) (k j : Nat) (v : Int32) : sR (wI S k j v) = sR S := rfl
theorem kr_sL_wI (S : AS) (k j : Nat) (v : Int32) : sL (wI S k j v) = sL S := rfl
theorem kp_4 (t : Int32) : sK (kr_P t) 4 = 22 := by
  unfold kr_P
  rw [kr_sK_wI]
  exact kr_zq.1
theorem kp_25 (t : Int32) : sK (kr_P t) 25 = 15 := by
  unfold kr_P
  rw [kr_sK_wI]
  exact kr_zq.2.1
theorem kp_26 (t : Int32) : sK (kr_P t) 26 = 40 := by
  unfold kr_P
  rw [kr_sK_wI]
  exact kr_zq.2.2.1
theorem kp_sR (t : Int32) : sR (kr_P t) = sR kr_Z := by
  unfold kr_P
  rw [kr_sR_wI]
theorem kp_sL (t : Int32) : sL (kr_P t) = sL kr_Z := by
  unfold kr_P
  rw [kr_sL_wI]
theorem kr_rv_s {S : AS} {κ k : Nat} (h : sK S k = κ) : kr_rv S κ (some k) = some () := by
  unfold kr_rv
  rw [Option.bind_some, if_pos h]
theorem kp_g0 (t : Int32) : gI (kr_P t) 22 0 (some 4) = some t := by
  rw [kr_gI_s (kp_4 t)]
  unfold kr_P
  rw [kr_sI_wI]
theorem kp_g9 (t : Int32) : gI (kr_P t) 22 9 (some 4) = some (0 : Int32) := by
  rw [kr_gI_s (kp_4 t)]
  unfold kr_P
  rw [kr_sI_ne (by decide), kr_zq.2.2.2.2.1]
theorem kr_gR_s {S : AS} {κ j k : Nat} (h : sK S k = κ) : gR S κ j (some k) = some (sR S k j) := by
  unfold gR
  rw [Option.bind_some, if_pos h]
theorem kp_r (t : Int32) : gR (kr_P t) 22 15 (some 4) = some (some 25) := by
  rw [kr_gR_s (kp_4 t), kp_sR, kr_zq.2.2.2.2.2.1]
theorem kp_v (t : Int32) : kr_rv (kr_P t) 22 (some 4) = some () := kr_rv_s (kp_4 t)
theorem kp_v25 (t : Int32) : kr_rv (kr_P t) 15 (some 25) = some () := kr_rv_s (kp_25 t)
theorem kp_k (t : Int32) (j : Nat) : gI (kr_P t) 15 j (some 25) = some (sI kr_Z 25 j) := by
  rw [kr_gI_s (kp_25 t)]
  unfold kr_P
  rw [kr_sI_ne (fun q => absurd q.1 (by decide))]
theorem kp_a (t : Int32) : aI (kr_P t) 40 (some 26) (0 : Int32) = some (0 : Int32) := by
  unfold aI
  rw [Option.bind_some, if_pos ⟨kp_26 t, by decide, by rw [kp_sL, kr_zq.2.2.2.2.2.2.2.2.2.2]; decide⟩, show (0 : Int32).toNatClampNeg = 0 from by decide]
  unfold kr_P
  rw [kr_sI_ne (by decide), kr_zq.2.2.2.2.2.2.2.2.2.1]
theorem kr_ret_s (n : Nat) (S : AS) (x : Option Nat) (a i : Int32) : f_Keyring_retire_L2 (n + 1) S x a i = f_Keyring_retire_C2 (f_Keyring_retire_L2 n) S x a i := rfl
theorem kp_retire (t : Int32) (h : ¬ (0 : Int32) = t) : f_Keyring_retire (kr_P t) (some 25) t = some (kr_P t) := by
  show f_Keyring_retire_C2 (f_Keyring_retire_L2 1999) (kr_P t) (some 25) t 0 = _
  unfold f_Keyring_retire_C2
  rw [kp_k, Option.bind_some, kr_zq.2.2.2.2.2.2.2.1, if_neg (by decide), if_neg (by decide), kr_gR_s (kp_25 t), Option.bind_some, kp_sR, kr_zq.2.2.2.2.2.2.2.2.1, kp_a, Option.bind_some, if_neg h]
  unfold f_Keyring_retire_B40
  rw [Option.bind_some]
  refine (kr_ret_s 1998 (kr_P t) (some 25) t ((0 : Int32) + 1)).trans ?_
  unfold f_Keyring_retire_C2
  rw [kp_k, Option.bind_some, kr_zq.2.2.2.2.2.2.2.1, if_pos (by decide)]
theorem kp_turn (t : Int32) (h : ¬ (0 : Int32) = t) : f_K_turnKeys (kr_P t) (some 4) = some (kr_P t) := by
  have hd : f_Keyring_isDueToSign (kr_P t) (some 25) t = some ((0 : Int32), kr_P t) := by
    unfold f_Keyring_isDueToSign
    rw [kp_k, Option.bind_some, if_pos kr_zq.2.2.2.2.2.2.1]
  unfold f_K_turnKeys
  rw [kp_r, Option.bind_some, kp_g0, Option.bind_some, kp_v25, Option.bind_some, hd, kr_b2_s, if_pos rfl]
  unfold f_K_turnKeys_B44
  rw [kp_r, Option.bind_some, kp_g0, Option.bind_some, kp_v25, Option.bind_some, kp_retire t h, Option.bind_some]
theorem kp_loop (n : Nat) (hn : n ≤ 600) : ∀ m i f : Nat, i + m = n → m < f → f_K_pass_L38 f (kr_P (Int32.ofNat i)) (some 4) (Int32.ofNat n) (0 : Int32) (Int32.ofNat i) = some (.inl ((0 : Int32) - 0), kr_P (Int32.ofNat n)) := by
  intro m
  induction m with
  | zero =>
    intro i f h1 h2
    obtain ⟨f, rfl⟩ : ∃ g, f = g + 1 := ⟨f - 1, by omega⟩
    have hi : i = n := by omega
    subst hi
    show f_K_pass_C38 _ _ _ _ _ _ = _
    unfold f_K_pass_C38
    rw [if_pos (Int32.le_refl _), kp_g9, Option.bind_some]
  | succ m ih =>
    intro i f h1 h2
    obtain ⟨f, rfl⟩ : ∃ g, f = g + 1 := ⟨f - 1, by omega⟩
    show f_K_pass_C38 _ _ _ _ _ _ = _
    unfold f_K_pass_C38
    rw [if_neg (fun q => by have := (kr_le (i := i) (n := n) (by omega) (by omega)).mp q; omega), kp_g0, Option.bind_some, kr_pI_s (kp_4 _), Option.bind_some]
    have e : wI (kr_P (Int32.ofNat i)) 4 0 (Int32.ofNat i + 1) = kr_P (Int32.ofNat (i + 1)) := by
      unfold kr_P
      rw [kr_wI_wI, kr_s1]
    have he : f_K_endOldSessions (kr_P (Int32.ofNat (i + 1))) (some 4) = some (.inl (), kr_P (Int32.ofNat (i + 1))) := by
      unfold f_K_endOldSessions
      rw [kp_g9, Option.bind_some, if_pos rfl]
    rw [e, kp_v, Option.bind_some, kp_turn _ (kr_ne0 (by omega)), Option.bind_some, kp_v, Option.bind_some, he, kr_bx_l, Option.bind_some, kr_s1]
    exact ih (i + 1) f (by omega) (by omega)
theorem kp_pass (n : Nat) (h1 : 1 ≤ n) (hn : n ≤ 600) : f_K_pass kr_Z (some 4) (Int32.ofNat n) = some (.inl ((0 : Int32) - 0), kr_P (Int32.ofNat n)) := by
  have hr : (1 : Int32) ≤ Int32.ofNat n ∧ Int32.ofNat n ≤ 600 := ⟨(kr_le (i := n) (n := 1) (by omega) (by decide)).mpr h1, (kr_le (i := 600) (n := n) (by decide) (by omega)).mpr hn⟩
  have hz : kr_Z = kr_P (Int32.ofNat 0) := (kr_wI_id kr_zq.2.2.2.1).symm
  have g0 : gI kr_Z 22 0 (some 4) = some (0 : Int32) := by rw [kr_gI_s kr_zq.1, kr_zq.2.2.2.1]
  have g9 : gI kr_Z 22 9 (some 4) = some (0 : Int32) := by rw [kr_gI_s kr_zq.1, kr_zq.2.2.2.2.1]
  unfold f_K_pass
  rw [q_Kw, kr_b2_s, kr_bi_t hr, q_Kreq1, kr_bx_l, g0, Option.bind_some, if_neg (by rw [Int32.zero_add]; exact Int32.not_lt.mpr (Int32.le_trans hr.2 (by decide)))]
  unfold f_K_pass_B28
  rw [q_Kst1, kr_bx_l, g9, Option.bind_some]
  have k := kp_loop n hn n 0 kr_FU (by omega) (by show n < 2000; omega)
  rw [← hz] at k
  exact k
/-- the reference's loop -/
theorem mp_loop (T : AS) (hk : sK T 57 = 23) (h62 : sI T 57 62 = -1) (h30 : sI T 57 30 = 0) (n : Nat) (hn : n ≤ 600) : ∀ m i f : Nat, i + m = n → m < f → f_M_pass_L45 f (wI T 57 0 (Int32.ofNat i)) (some 57) (Int32.ofNat n) (0 : Int32) (Int32.ofNat i) = some ((0 : Int32), wI T 57 0 (Int32.ofNat n)) := by
  have hk' : ∀ v : Int32, sK (wI T 57 0 v) 57 = 23 := fun v => by rw [kr_sK_wI]; exact hk
  intro m
  induction m with
  | zero =>
    intro i f h1 h2
    obtain ⟨f, rfl⟩ : ∃ g, f = g + 1 := ⟨f - 1, by omega⟩
    have hi : i = n := by omega
    subst hi
    show f_M_pass_C45 _ _ _ _ _ _ = _
    unfold f_M_pass_C45
    rw [if_pos (Int32.le_refl _)]
  | succ m ih =>
    intro i f h1 h2
    obtain ⟨f, rfl⟩ : ∃ g, f = g + 1 := ⟨f - 1, by omega⟩
    show f_M_pass_C45 _ _ _ _ _ _ = _
    unfold f_M_pass_C45
    rw [if_neg (fun q => by have := (kr_le (i := i) (n := n) (by omega) (by omega)).mp q; omega), kr_gI_s (hk' _), Option.bind_some, kr_pI_s (hk' _), Option.bind_some, kr_sI_wI, kr_wI_wI, kr_s1, kr_gI_s (hk' _), Option.bind_some, kr_sI_ne (by decide), if_pos h62]
    unfold f_M_pass_B118
    show f_M_pass_C121 _ (f_M_pass_L121 _ 1999) _ _ _ _ _ _ = _
    unfold f_M_pass_C121
    rw [kr_gI_s (hk' _), Option.bind_some, kr_sI_ne (by decide), h30, if_pos (by decide), Option.bind_some, kr_s1]
    exact ih (i + 1) f (by omega) (by omega)
theorem mp_pass (S : AS) (hk : sK S 57 = 23) (h62 : sI S 57 62 = -1) (h30 : sI S 57 30 = 0) (h0 : sI S 57 0 = 0) (n : Nat) (h1 : 1 ≤ n) (hn : n ≤ 600) : f_M_pass S (some 57) (Int32.ofNat n) = some ((0 : Int32), wI (wI S 57 82 0) 57 0 (Int32.ofNat n)) := by
  have hr : (1 : Int32) ≤ Int32.ofNat n ∧ Int32.ofNat n ≤ 600 := ⟨(kr_le (i := n) (n := 1) (by omega) (by decide)).mpr h1, (kr_le (i := 600) (n := n) (by decide) (by omega)).mpr hn⟩
  have hv : kr_rv S 23 (some 57) = some () := kr_rv_s hk
  have hm : f_M_mayBoth S (some 57) (1 : Int32) (1 : Int32) = some ((1 : Int32), wI S 57 82 0) := by
    unfold f_M_mayBoth f_M_mayBoth_B18
    rw [if_neg (by decide), if_neg (by decide), kr_pI_s hk, Option.bind_some, kr_gI_s (by rw [kr_sK_wI]; exact hk), Option.bind_some, kr_sI_wI, if_pos rfl]
  unfold f_M_pass
  rw [q_Mi, kr_b2_s, kr_bi_t hr, if_neg (by decide), kr_gI_s hk, Option.bind_some, h0, if_neg (by rw [Int32.zero_add]; exact Int32.not_lt.mpr (Int32.le_trans hr.2 (by decide)))]
  unfold f_M_pass_B32
  rw [hv, Option.bind_some, hm, kr_b2_s, if_neg (by decide)]
  have k := mp_loop (wI S 57 82 0) (by rw [kr_sK_wI]; exact hk) (by rw [kr_sI_ne (by decide)]; exact h62) (by rw [kr_sI_ne (by decide)]; exact h30) n hn n 0 kr_FU (by omega) (by show n < 2000; omega)
  rw [show wI (wI S 57 82 0) 57 0 (Int32.ofNat 0) = wI S 57 82 0 from kr_wI_id (by rw [kr_sI_ne (by decide)]; exact h0)] at k
  exact k
theorem kr_b126 (S : AS) (v : Int64) (hk : sK S 126 = 42) (hl : sL S 126 = 1) : bJ S (some 126) (0 : Int32) v = some (wJ S 126 0 v) := by
  unfold bJ
  rw [Option.bind_some, if_pos ⟨hk, by decide, by rw [hl]; decide⟩, show (0 : Int32).toNatClampNeg = 0 from by decide]
theorem kr_a126 (S : AS) (hk : sK S 126 = 42) (hl : sL S 126 = 1) : aJ S (some 126) (0 : Int32) = some (sJ S 126 0) := by
  unfold aJ
  rw [Option.bind_some, if_pos ⟨hk, by decide, by rw [hl]; decide⟩, show (0 : Int32).toNatClampNeg = 0 from by decide]
theorem kr_z126 : sK kr_Z 126 = 42 ∧ sL kr_Z 126 = 1 ∧ sK kr_Z 57 = 23 ∧ sI kr_Z 57 62 = -1 ∧ sI kr_Z 57 30 = 0 ∧ sI kr_Z 57 0 = 0 := by decide +kernel
theorem kr_sK_wJ (S : AS) (k j : Nat) (v : Int64) : sK (wJ S k j v) = sK S := rfl
theorem kr_sL_wJ (S : AS) (k j : Nat) (v : Int64) : sL (wJ S k j v) = sL S := rfl
theorem kr_sI_wJ (S : AS) (k j : Nat) (v : Int64) : sI (wJ S k j v) = sI S := rfl
theorem kr_sJ_wI (S : AS) (k j : Nat) (v : Int32) : sJ (wI S k j v) = sJ S := rfl
theorem kr_sJ_wJ (S : AS) (k j : Nat) (v : Int64) : sJ (wJ S k j v) k j = v := by
  show (if k = k ∧ j = j then v else sJ S k j) = v
  rw [if_pos ⟨rfl, rfl⟩]
theorem kr_sC_wI (S : AS) (k j : Nat) (v : Int32) : sC (wI S k j v) = sC S := rfl
theorem kr_sS_wI (S : AS) (k j : Nat) (v : Int32) : sS (wI S k j v) = sS S := rfl
theorem kr_sC_wJ (S : AS) (k j : Nat) (v : Int64) : sC (wJ S k j v) = sC S := rfl
theorem kr_sS_wJ (S : AS) (k j : Nat) (v : Int64) : sS (wJ S k j v) = sS S := rfl
/-- good, where the room is that of the fresh objects -/
theorem kr_gd {S : AS} (h1 : sC S = sC kr_Z) (h2 : sS S = sS kr_Z) : kr_good (some ((1 : Int32), S)) = true := by
  show ((1 : Int32) == 1 && Nat.ble (sC S) 600002 && Nat.ble (sS S) 7302231) = true
  rw [h1, h2, kr_zc.1, kr_zc.2]
  decide
theorem k_pass0 (a : Int32) (ha : ¬ ((1 : Int32) ≤ a ∧ a ≤ 600)) : f_K_pass kr_Z (some 4) a = some (.inr "java/lang/IllegalArgumentException", wX kr_Z) := by
  unfold f_K_pass
  rw [q_Kw, kr_b2_s, kr_bi_f ha, q_Kreq, kr_bx_r]
theorem w_pass0 (a : Int32) (ha : ¬ ((1 : Int32) ≤ a ∧ a ≤ 600)) : f_W_pass kr_Z (some 4) a (some 126) = some ((1 : Int32), wX kr_Z) := by
  unfold f_W_pass
  rw [zrv22, Option.bind_some, k_pass0 a ha, kr_bh_r, if_pos rfl]
theorem n_pass0 (a : Int32) (ha : ¬ ((1 : Int32) ≤ a ∧ a ≤ 600)) : f_M_pass (wX kr_Z) (some 57) a = some ((0 : Int32), kr_M1) := by
  unfold f_M_pass
  rw [q_Mi, kr_b2_s, kr_bi_f ha, if_pos rfl]
  unfold f_M_pass_B31 f_M_pass_B32
  rw [zrvX, Option.bind_some, mZ_both, kr_b2_s, if_pos rfl]
theorem o_pass (X : Nat → Int32) : kr_good (f_W_law_B260 X 6 (kr_K6 X) kr_Z (some 4) (some 57) (some 126) (0 : Int32)) = true := by
  simp only [f_W_law_B260, kr_sx1, Option.bind_some, kr_tail]
  generalize X 1 = a
  by_cases ha : (1 : Int32) ≤ a ∧ a ≤ 600
  · obtain ⟨n, hn, e⟩ := kr_rng ha
    have h599 : n < 600 := Nat.lt_of_lt_of_le hn (by decide)
    have e' : a = Int32.ofNat (n + 1) := by
      rw [e, show (1 : Int32).toInt + (n : Int) = ((n + 1 : Nat) : Int) by rw [show (1 : Int32).toInt = 1 from by decide]; omega]
      rfl
    subst e'
    have hw : f_W_pass kr_Z (some 4) (Int32.ofNat (n + 1)) (some 126) = some ((0 : Int32), wJ (kr_P (Int32.ofNat (n + 1))) 126 0 ((0 : Int32) - 0).toInt64) := by
      unfold f_W_pass
      rw [zrv22, Option.bind_some, kp_pass (n + 1) (by omega) (by omega), kr_bh_l, kr_b126 _ _ (by unfold kr_P; rw [kr_sK_wI]; exact kr_z126.1) (by rw [kp_sL]; exact kr_z126.2.1), Option.bind_some]
    have hk : sK (wJ (kr_P (Int32.ofNat (n + 1))) 126 0 ((0 : Int32) - 0).toInt64) 57 = 23 := by
      unfold kr_P
      rw [kr_sK_wJ, kr_sK_wI]
      exact kr_z126.2.2.1
    have hi : ∀ j, sI (wJ (kr_P (Int32.ofNat (n + 1))) 126 0 ((0 : Int32) - 0).toInt64) 57 j = sI kr_Z 57 j := fun j => by
      unfold kr_P
      rw [kr_sI_wJ, kr_sI_ne (fun q => absurd q.1 (by decide))]
    have hm := mp_pass _ hk (by rw [hi]; exact kr_z126.2.2.2.1) (by rw [hi]; exact kr_z126.2.2.2.2.1) (by rw [hi]; exact kr_z126.2.2.2.2.2) (n + 1) (by omega) (by omega)
    generalize hT : wJ (kr_P (Int32.ofNat (n + 1))) 126 0 ((0 : Int32) - 0).toInt64 = T at hw hk hm
    have hv : ∀ v, sK (wI (wI T 57 82 0) 57 0 v) 57 = 23 := fun v => by rw [kr_sK_wI, kr_sK_wI]; exact hk
    have ht : f_M_thrown (wI (wI T 57 82 0) 57 0 (Int32.ofNat (n + 1))) (some 57) = some ((0 : Int32), wI (wI T 57 82 0) 57 0 (Int32.ofNat (n + 1))) := by
      unfold f_M_thrown
      rw [kr_gI_s (hv _), Option.bind_some, kr_sI_ne (by decide), kr_sI_wI]
    have h126 : sK T 126 = 42 ∧ sL T 126 = 1 := by
      subst hT
      refine ⟨?_, ?_⟩
      · unfold kr_P
        rw [kr_sK_wJ, kr_sK_wI]
        exact kr_z126.1
      · rw [kr_sL_wJ, kp_sL]
        exact kr_z126.2.1
    have hj : sJ T 126 0 = ((0 : Int32) - 0).toInt64 := by
      subst hT
      rw [kr_sJ_wJ]
    rw [hw, kr_b2_s, kr_rv_s hk, Option.bind_some, hm, kr_b2_s, kr_rv_s (hv _), Option.bind_some, ht, kr_b2_s, if_pos rfl, if_pos rfl, kr_a126 _ (by rw [kr_sK_wI, kr_sK_wI]; exact h126.1) (by rw [kr_sL_wI, kr_sL_wI]; exact h126.2), Option.bind_some, kr_sJ_wI, kr_sJ_wI, hj, if_pos (by decide)]
    refine kr_gd ?_ ?_
    · subst hT
      unfold kr_P
      rw [kr_sC_wI, kr_sC_wI, kr_sC_wJ, kr_sC_wI]
    · subst hT
      unfold kr_P
      rw [kr_sS_wI, kr_sS_wI, kr_sS_wJ, kr_sS_wI]
  · rw [w_pass0 a ha, kr_b2_s, zrvX, Option.bind_some, n_pass0 a ha, kr_b2_s]
    decide +kernel
