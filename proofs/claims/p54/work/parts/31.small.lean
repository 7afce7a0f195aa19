theorem kw_nat {n : Nat} (h : n ≤ 4000) : (Int32.ofNat n).toInt = (n : Int) := Int32.toInt_ofNat_of_lt (by omega)
theorem x_g {S : AS} {f j : Nat} {v : Int32} (h : sK S f = 13) (e : sI S f j = v) : gI S 13 j (some f) = some v := by rw [ti_gI h, e]
theorem x_r {S : AS} {f j q : Nat} (h : sK S f = 13) (e : sR S f j = some q) : gR S 13 j (some f) = some (some q) := by rw [ti_gR h, e]
theorem x_b {S : AS} {k n : Nat} {v : Int32} (h : sK S k = 40) (hl : n < sL S k) (hn : n ≤ 300) : bI S (some k) (Int32.ofNat n) v = some (wI S k n v) := by
  obtain ⟨e1, e2⟩ := gl2 n (by omega)
  unfold bI
  rw [Option.bind_some, if_pos ⟨h, by rw [e1]; omega, by rw [e1]; omega⟩, e2]
theorem ho_and {β : Type} {x : Option β} {P Q : β → Prop} (h1 : Ho x P) (h2 : Ho x Q) : Ho x (fun b => P b ∧ Q b) := by
  obtain ⟨b, e, hp⟩ := h1
  obtain ⟨b', e', hq⟩ := h2
  rw [e] at e'
  cases e'
  exact ⟨b, e, hp, hq⟩
theorem bx_l {α β : Type} (v : α) (S : AS) (F : α → AS → Option ((β ⊕ String) × AS)) : kr_bx (some (.inl v, S)) F = F v S := rfl
theorem bx_r {α β : Type} (e : String) (S : AS) (F : α → AS → Option ((β ⊕ String) × AS)) : kr_bx (some (.inr e, S)) F = some (.inr e, S) := rfl
theorem rA1 (S : AS) : f_K_requireArgument S 1 = some (.inl (), S) := rfl
theorem rA0 (S : AS) : f_K_requireArgument S 0 = some (.inr "java/lang/IllegalArgumentException", wX S) := rfl
theorem rS1 (S : AS) : f_K_requireState S 1 = some (.inl (), S) := rfl
theorem rS0 (S : AS) : f_K_requireState S 0 = some (.inr "java/lang/IllegalStateException", wX S) := rfl
theorem bJ_K {S : AS} (k : sK S 126 = 42) (l : sL S 126 = 1) (v : Int64) : bJ S (some 126) (0 : Int32) v = some (wJ S 126 0 v) := by
  unfold bJ
  rw [Option.bind_some, if_pos ⟨k, by decide, by rw [l]; decide⟩]
  rfl
theorem bh_l {α β : Type} (v : α) (S : AS) (G : String → AS → Option β) (F : α → AS → Option β) : kr_bh (some (.inl v, S)) G F = F v S := rfl
theorem bh_r {α β : Type} (e : String) (S : AS) (G : String → AS → Option β) (F : α → AS → Option β) : kr_bh (some (.inr e, S)) G F = G e S := rfl
theorem lg_rf (x : Int64) : lg_cmp x x = 0 := by
  unfold lg_cmp
  rw [if_neg (Int64.lt_irrefl), if_pos rfl]
theorem sI_wJ (S : AS) (p j : Nat) (v : Int64) : sI (wJ S p j v) = sI S := rfl
theorem sR_wJ (S : AS) (p j : Nat) (v : Int64) : sR (wJ S p j v) = sR S := rfl
theorem sR_wI (S : AS) (p j : Nat) (v : Int32) : sR (wI S p j v) = sR S := rfl
theorem sJ_wJ (S : AS) (v : Int64) : sJ (wJ S 126 0 v) 126 0 = v := by
  show (if (126 : Nat) = 126 ∧ (0 : Nat) = 0 then v else sJ S 126 0) = v
  rw [if_pos ⟨rfl, rfl⟩]
theorem sI_wX (S : AS) : sI (wX S) = sI S := rfl
theorem sR_wX (S : AS) : sR (wX S) = sR S := rfl
theorem ho_eqn {β : Type} {x : Option β} {P : β → Prop} (h : Ho x P) : Ho x (fun b => x = some b ∧ P b) := by
  obtain ⟨b, e, p⟩ := h
  exact ⟨b, e, e, p⟩
theorem pk_inj {α : Type} {a b : α} {S S' : AS} (h : some (a, S) = some (b, S')) : b = a ∧ S' = S := by
  obtain ⟨h1, h2⟩ := Prod.mk.inj (Option.some.inj h)
  exact ⟨h1.symm, h2.symm⟩
theorem kd_ty {T : Nat → Nat} {S : AS} (hT : TI T S) {j τ p : Nat} (a : ft 1 j = some τ) (b : sg τ = some p) : sR S 4 j = some p ∧ T p = τ ∧ τ ≠ 0 := by
  obtain ⟨k, e, h1, h2⟩ := hT.t2 4 j τ (by rw [hT.t9.2.2.2.2.1]; exact a)
  have := hT.t7 k p (by rw [h1]; exact b)
  subst this
  exact ⟨e, h1, h2⟩
theorem md_at {T : Nat → Nat} {S : AS} (hT : TI T S) {j τ p : Nat} (a : ft 100 j = some τ) (b : sg τ = some p) : sR S 57 j = some p ∧ T p = τ ∧ τ ≠ 0 := by
  obtain ⟨k, e, h1, h2⟩ := hT.t2 57 j τ (by rw [hT.t9.1]; exact a)
  have := hT.t7 k p (by rw [h1]; exact b)
  subst this
  exact ⟨e, h1, h2⟩
def pm (c : Int32) : Nat := if c = 0 then 73 else 74
def ng (v : Int32) : Int32 := if v = 0 then 1 else 0
