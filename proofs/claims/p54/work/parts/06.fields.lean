section KR
variable {M : MM} {d pc : Nat} {lv : List (Nat × Value)} {st : List Value} {S : AS} {r : AR}
/-- a field is read -/
theorem kr_getC {κ j i k : Nat} {v : Value} (hk : sK S k = κ) (hf : kr_fk (mO M) i κ j) (hv : ∀ ad, kr_oV ad S k j (kr_cY (κ - 10) j) = cv ad v) (hl : ∀ g, kr_ok g S → kr_vl (sN S) v) (hd : decode (mC M) pc = .ok (.getfield i, 3)) (K : kr_AW M d (pc + 3) lv (v :: st) S r) : kr_AW M d pc lv (.ref k :: st) S r := by
  obtain ⟨hκ, hj, ref, hlk, hsm⟩ := hf
  refine ⟨K.1, ?_⟩
  intro g p l e s m args below meth c ad0 n0 c0 s0 mc ms C ad H locs ls cells slots A
  obtain ⟨a1, a2, a3, a4, a5, a6, a7, a8, a9, a10⟩ := A
  have C' := C
  obtain ⟨hx, hb, hml, hrt, ho, ht, hlocks, hst, htab, hnm, hB⟩ := C
  obtain ⟨hok, hsp, hP, hD⟩ := id a7
  obtain ⟨h4, hkn⟩ := hok.ge (k := k) (by rw [hk]; exact hκ.1)
  have he : (kr_ws g ad S)[ix S k]? = some (ad k, .inr (κ - 10, kr_oL ad S k (κ - 10))) := by rw [kr_ws_at h4 hkn (by rw [hk]; exact Or.inl (Nat.lt_of_lt_of_le hκ.2 (by decide))), kr_obj hk hκ]
  have hc : κ - 10 < kr_nC := by omega
  have kk := K.2 g p l e s m args below meth c ad0 n0 c0 s0 mc ms C' ad H locs ls cells slots ⟨a1, a2, a3, a4, a5, a6, a7, a8, a9, kr_va_cons (hl g hok) (kr_va_tl a10)⟩
  have hvv : (kr_oL ad S k (κ - 10))[j]? = some (cv ad v) := by rw [kr_oL_at hj, hv]
  rcases hlk with hlk | ⟨host, hlk⟩
  · exact va_get hx hb ht (kr_in _ hc) ho hB.2.1 hP (ix S k) he (kr_cl_at hc) j hj (ht _ hlk) (kr_same ht hsm) hvv hd kk
  · exact va_getN hx hb ht (kr_in _ hc) ho hB.2.1 hP (ix S k) he (kr_cl_at hc) j hj (va_Nw.use rfl (hB.2.2.1 _ hlk)) (kr_same ht hsm) hvv hd kk
theorem r_getI {κ j i : Nat} {x : Option Nat} {v : Int32} (h : gI S κ j x = some v) (hf : kr_fk (mO M) i κ j) (hy : kr_isR (kr_cY (κ - 10) j) = false) (hd : decode (mC M) pc = .ok (.getfield i, 3)) (K : kr_AW M d (pc + 3) lv (.int v :: st) S r) : kr_AW M d pc lv (va_rf x :: st) S r := by
  cases x with
  | none => cases h
  | some k =>
    simp only [gI, Option.bind_some] at h
    split at h
    · next hk =>
      cases h
      exact kr_getC (v := .int (sI S k j)) hk hf (fun ad => by simp only [kr_oV, hy]; rfl) (fun _ _ => trivial) hd K
    · cases h
theorem r_getR {κ j i : Nat} {x v : Option Nat} (h : gR S κ j x = some v) (hf : kr_fk (mO M) i κ j) (hy : kr_isR (kr_cY (κ - 10) j) = true) (hd : decode (mC M) pc = .ok (.getfield i, 3)) (K : kr_AW M d (pc + 3) lv (va_rf v :: st) S r) : kr_AW M d pc lv (va_rf x :: st) S r := by
  cases x with
  | none => cases h
  | some k =>
    simp only [gR, Option.bind_some] at h
    split at h
    · next hk =>
      cases h
      refine kr_getC (v := va_rf (sR S k j)) hk hf (fun ad => by simp only [kr_oV, hy, if_true, kr_rf]) (fun g hok => ?_) hd K
      cases hv : sR S k j with
      | none => trivial
      | some a => exact hok.2.2.2.2.2.2 k j a hv
    · cases h
/-- a field is written: the state S1 holds at k, j the value w, and is S elsewhere -/
theorem kr_putC {κ j i k : Nat} {w : Value} {S1 : AS} {ty : FieldType} (hk : sK S k = κ) (hf : kr_fk (mO M) i κ j) (hfin : (kr_cF (κ - 10) j).2.2.2 = false ∨ ((kr_cF (κ - 10) j).2.2.2 = true ∧ mN M = "<init>" ∧ (kr_cF (κ - 10) j).1 = mO M ∧ ∃ ref, Cond.fieldLink (mO M) i ref (kr_cF (κ - 10) j).2.1 (kr_cF (κ - 10) j).2.2.1 ∈ kr_TB ∧ ref = (kr_cF (κ - 10) j).1)) (hty : kr_cY (κ - 10) j = ty) (hn : ∀ ad, narrow ty (cv ad w) = cv ad w) (hfit : ∀ ad, fits ty (cv ad w) = true)
    (e1 : sN S1 = sN S) (e2 : sC S1 = sC S) (e3 : sS S1 = sS S) (e4 : sK S1 = sK S) (e5 : ∀ g ad k', k' ≠ k → kr_cE g ad S1 k' = kr_cE g ad S k') (e6 : ∀ ad, kr_oL ad S1 k (κ - 10) = (kr_oL ad S k (κ - 10)).set j (cv ad w)) (e7 : ∀ g, kr_ok g S → 4 ≤ k → kr_ok g S1)
    (hd : decode (mC M) pc = .ok (.putfield i, 3)) (K : kr_AW M d (pc + 3) lv st S1 r) : kr_AW M d pc lv (w :: .ref k :: st) S r := by
  obtain ⟨hκ, hj, ref, hlk, hsm⟩ := hf
  refine ⟨by rw [← e2, ← e3, ← e1]; exact K.1, ?_⟩
  intro g p l e s m args below meth c ad0 n0 c0 s0 mc ms C ad H locs ls cells slots A
  obtain ⟨a1, a2, a3, a4, a5, a6, a7, a8, a9, a10⟩ := A
  have C' := C
  obtain ⟨hx, hb, hml, hrt, ho, ht, hlocks, hst, htab, hnm, hB⟩ := C
  obtain ⟨hok, hsp, hP, hD⟩ := id a7
  obtain ⟨h4, hkn⟩ := hok.ge (k := k) (by rw [hk]; exact hκ.1)
  have he : (kr_ws g ad S)[ix S k]? = some (ad k, .inr (κ - 10, kr_oL ad S k (κ - 10))) := by rw [kr_ws_at h4 hkn (by rw [hk]; exact Or.inl (Nat.lt_of_lt_of_le hκ.2 (by decide))), kr_obj hk hκ]
  have hc : κ - 10 < kr_nC := by omega
  have hset : kr_ws g ad S1 = (kr_ws g ad S).set (ix S k) (ad k, .inr (κ - 10, (kr_oL ad S k (κ - 10)).set j (cv ad w))) := by
    rw [kr_ws_set e1 e4 (by rw [hk]; exact Or.inl (Nat.lt_of_lt_of_le hκ.2 (by decide))) h4 hkn (e5 g ad), kr_obj (by rw [e4]; exact hk) hκ, e6]
  have hd' : parseFieldDescriptor (kr_cF (κ - 10) j).2.2.1 = some ty := by rw [← hty]; exact kr_ty _ hc j hj
  have hlen : j < (kr_oL ad S k (κ - 10)).length := by simp [kr_oL]; exact hj
  have kk : ∀ (H1 : Heap) (locs1 : List Loc), va_P (gD g) kr_cl ((kr_ws g ad S).set (ix S k) (ad k, .inr (κ - 10, (kr_oL ad S k (κ - 10)).set j (cv ad w)))) H1 → va_D (kr_fr g) ((kr_ws g ad S).set (ix S k) (ad k, .inr (κ - 10, (kr_oL ad S k (κ - 10)).set j (cv ad w)))) → va_S (kr_fr g) s.heap H1 locs1 → W p l e (kr_room d mc ms) s m args below meth c H1 locs1 cells slots (vx_MQ below (kr_Q g ad0 n0 r) (kr_XC g ad0 n0 r) args s mc ms (kr_fr g)) (F0 m (pc + 3) ls (st.map (cv ad))) := by
    intro H1 locs1 hP1 hD1 hS1
    rw [← hset] at hP1 hD1
    exact K.2 g p l e s m args below meth c ad0 n0 c0 s0 mc ms C' ad H1 locs1 ls cells slots ⟨a1.trans e2.symm, a2.trans e3.symm, a3, a4, by rw [e1]; exact a5, a6, ⟨e7 g hok h4, hsp, hP1, hD1⟩, hS1, a9, by rw [e1]; exact kr_va_tl (kr_va_tl a10)⟩
  rcases hfin with hfin | ⟨hfin, hini, hdecl, ref2, hlk2, rfl⟩
  · rcases hlk with hlk | ⟨host, hlk⟩
    · exact va_put hx hb ht (kr_in _ hc) _ (kr_ty _ hc) (kr_nm _ hc) ho hB.2.1 hP hD a8 (ix S k) he (kr_cl_at hc) j hj (ht _ hlk) (kr_same ht hsm) hfin hd' (hn ad) (hfit ad) hlen hd kk
    · exact va_putN hx hb ht (kr_in _ hc) _ (kr_ty _ hc) (kr_nm _ hc) ho hB.2.1 hP hD a8 (ix S k) he (kr_cl_at hc) j hj (va_Nw.use rfl (hB.2.2.1 _ hlk)) (kr_same ht hsm) hfin hd' (hn ad) (hfit ad) hlen hd kk
  · exact va_putF hx hb ht (kr_in _ hc) _ (kr_ty _ hc) (kr_nm _ hc) ho hB.2.1 hP hD a8 (ix S k) he (kr_cl_at hc) j hj (ht _ hlk2) (fun _ h => h) hfin (hnm.1.trans hini) hdecl hd' (hn ad) (hfit ad) hlen hd kk
/-- a field that may be written here: not final, or in its own class's constructor -/
def kr_fw (M : MM) (i κ j : Nat) : Prop := (kr_cF (κ - 10) j).2.2.2 = false ∨ ((kr_cF (κ - 10) j).2.2.2 = true ∧ mN M = "<init>" ∧ (kr_cF (κ - 10) j).1 = mO M ∧ ∃ ref, Cond.fieldLink (mO M) i ref (kr_cF (κ - 10) j).2.1 (kr_cF (κ - 10) j).2.2.1 ∈ kr_TB ∧ ref = (kr_cF (κ - 10) j).1)
theorem r_putI {κ j i : Nat} {x : Option Nat} {v : Int32} {S1 : AS} (h : pI S κ j x v = some S1) (hf : kr_fk (mO M) i κ j) (hw : kr_fw M i κ j) (hy : kr_cY (κ - 10) j = .int) (hd : decode (mC M) pc = .ok (.putfield i, 3)) (K : kr_AW M d (pc + 3) lv st S1 r) : kr_AW M d pc lv (.int v :: va_rf x :: st) S r := by
  cases x with
  | none => cases h
  | some k =>
    simp only [pI, Option.bind_some] at h
    split at h
    · next hk =>
      cases h
      exact kr_putC (w := .int v) (S1 := wI S k j v) hk hf hw hy (fun _ => rfl) (fun _ => rfl) rfl rfl rfl rfl (fun g ad k' h => kr_wI_cE h) (fun ad => kr_oL_set hf.2.1 (fun i hi => kr_u_nj hi) (fun i hi => rfl) (by rw [hy]; exact congrArg Value.int kr_u_eq)) (fun g hok h4 => kr_wI_ok hok h4) hd K
    · cases h
theorem r_putZ {κ j i : Nat} {x : Option Nat} {v : Int32} {S1 : AS} (h : pZ S κ j x v = some S1) (hf : kr_fk (mO M) i κ j) (hw : kr_fw M i κ j) (hy : kr_cY (κ - 10) j = .boolean) (hd : decode (mC M) pc = .ok (.putfield i, 3)) (K : kr_AW M d (pc + 3) lv st S1 r) : kr_AW M d pc lv (.int v :: va_rf x :: st) S r := by
  cases x with
  | none => cases h
  | some k =>
    simp only [pZ, Option.bind_some] at h
    split at h
    · next hk =>
      cases h
      exact kr_putC (w := .int v) (S1 := wI S k j v) hk.1 hf hw hy (fun _ => by rcases hk.2 with rfl | rfl <;> rfl) (fun _ => by rcases hk.2 with rfl | rfl <;> rfl) rfl rfl rfl rfl (fun g ad k' h => kr_wI_cE h) (fun ad => kr_oL_set hf.2.1 (fun i hi => kr_u_nj hi) (fun i hi => rfl) (by rw [hy]; exact congrArg Value.int kr_u_eq)) (fun g hok h4 => kr_wI_ok hok h4) hd K
    · cases h
theorem r_putR {κ j i : Nat} {x v : Option Nat} {S1 : AS} (h : pR S κ j x v = some S1) (hf : kr_fk (mO M) i κ j) (hw : kr_fw M i κ j) (hy : kr_isR (kr_cY (κ - 10) j) = true) (hd : decode (mC M) pc = .ok (.putfield i, 3)) (K : kr_AW M d (pc + 3) lv st S1 r) : kr_AW M d pc lv (va_rf v :: va_rf x :: st) S r := by
  cases x with
  | none => cases h
  | some k =>
    simp only [pR, Option.bind_some] at h
    split at h
    · next hk =>
      cases h
      obtain ⟨ty, hty⟩ : ∃ ty, kr_cY (κ - 10) j = ty := ⟨_, rfl⟩
      have hR : kr_isR ty = true := by rw [← hty]; exact hy
      refine kr_putC (w := va_rf v) (S1 := wR S k j v) hk.1 hf hw hty (fun ad => ?_) (fun ad => ?_) rfl rfl rfl rfl (fun g ad k' h => kr_wR_cE h) (fun ad => kr_oL_set hf.2.1 (fun i hi => rfl) (fun i hi => kr_u_nj hi) ?_) (fun g hok h4 => kr_wR_ok hok (fun a ha => ?_)) hd K
      · cases ty <;> first | (cases hR; done) | (cases v <;> rfl)
      · cases ty <;> first | (cases hR; done) | (cases v <;> rfl)
      · simp only [kr_oV, hy, if_true, kr_rf]
        exact congrArg (fun z => va_rf (Option.map ad z)) kr_u_eq
      · have h2 := hk.2
        rw [ha] at h2
        exact hok.lt (by simpa [kr_pb] using h2)
    · cases h
end KR
