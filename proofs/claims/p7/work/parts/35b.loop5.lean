/-! ===== the class's search for a loop of tests ===== -/
theorem r_Te {β : Type} {T : Nat → Nat} {S : AS} {f n k : Nat} {r : Nat → Nat} {F : Int32 → AS → Option β} {Q : β → Prop} (hT : TI T S) (h : DR T S f n r) (hk : k < n) (h1 : te S 96 k → Ho (F 1 S) Q) (h0 : ¬ te S 96 k → Ho (F 0 S) Q) : Ho (kr_b2 (f_Flow_isTest S (some f) (Int32.ofNat k)) F) Q := by
  obtain ⟨⟨v, S'⟩, e, h2⟩ : Ho (f_Flow_isTest S (some f) (Int32.ofNat k)) (fun q => q.2 = S ∧ ((q.1 = 1 ∧ te S 96 k) ∨ (q.1 = 0 ∧ ¬ te S 96 k))) := by
    unfold f_Flow_isTest
    rw [ti_rv (DR_K hT h).2.1, Option.bind_some, x_kind hT h hk, b2_s]
    exact r_KwX (fun p q => ⟨(1, S), rfl, rfl, Or.inl ⟨rfl, In_iff.mp ⟨p, q⟩⟩⟩) (fun p => ⟨(0, S), rfl, rfl, Or.inr ⟨rfl, fun q => p (In_iff.mpr q)⟩⟩)
  obtain ⟨e2, h2⟩ := h2
  cases e2
  rw [e, b2_s]
  rcases h2 with ⟨p, q⟩ | ⟨p, q⟩
  · cases p
    exact h1 q
  · cases p
    exact h0 q
theorem r_Lv {β : Type} {S : AS} {v x : Int32} {F : Int32 → AS → Option β} {Q : β → Prop} (hv : In (-1) 11 v) (h1 : (∀ t : Nat, v.toInt = (t : Int) → bt x t = true) → Ho (F 1 S) Q) (h0 : (∃ t : Nat, v.toInt = (t : Int) ∧ ¬ bt x t = true) → Ho (F 0 S) Q) : Ho (kr_b2 (f_Flow_leaves S v x) F) Q := by
  unfold f_Flow_leaves f_Flow_leaves_B13 f_K_isIn
  by_cases c : v = -1
  · rw [if_pos c, b2_s]
    refine h1 (fun t ht => ?_)
    rw [c, show (-1 : Int32).toInt = -1 from by decide] at ht
    omega
  · have c' : 0 ≤ v.toInt := by
      have : v.toInt ≠ -1 := fun q => c (Int32.toInt_inj.mp (q.trans (by decide)))
      have := hv.1
      omega
    obtain ⟨t, ht, e⟩ := ofNat_In (n := 11) (v := v) ⟨c', hv.2⟩
    have et : v.toInt = (t : Int) := by rw [e]; exact (gl2 t (by omega)).1
    have b := bt_test x (j := t) (by omega)
    rw [if_neg c, e]
    by_cases d : bt x t = true
    · rw [if_pos (b.mpr d), b2_s, if_neg (by decide : ¬ (1 : Int32) = 0), b2_s]
      refine h1 (fun t' ht' => ?_)
      have : t' = t := by omega
      rw [this]
      exact d
    · rw [if_neg (fun q => d (b.mp q)), b2_s, if_pos rfl, b2_s]
      exact h0 ⟨t, et, d⟩
def BI (S : AS) (n : Nat) (x : Int32) : Prop := (∀ i, bt x i = true → i < n) ∧ ∃ ρ : Nat → Nat, (∀ k, bt x k = true → ρ k < cb (bt x) 12) ∧ ∀ k, bt x k = true → te S 96 k → ∀ t, nx S 96 k t → bt x t = true ∧ ρ t < ρ k
theorem bt_set {x : Int32} {k : Nat} (hk : k < 12) (i : Nat) : bt (x ||| ((1 : Int32) <<< (Int32.ofNat k &&& 31))) i = (bt x i || decide (i = k)) := by rw [bt_or, bt_shl hk]
theorem BI_set {S : AS} {n k : Nat} {x : Int32} (hn : n ≤ 12) (h : BI S n x) (hk : k < n) (hs : ¬ te S 96 k ∨ ∀ t, nx S 96 k t → bt x t = true) : BI S n (x ||| ((1 : Int32) <<< (Int32.ofNat k &&& 31))) := by
  obtain ⟨h1, ρ, h2, h3⟩ := h
  have hb := fun i => bt_set (x := x) (k := k) (by omega) i
  by_cases c : bt x k = true
  · have e : bt (x ||| ((1 : Int32) <<< (Int32.ofNat k &&& 31))) = bt x := funext fun i => by
      rw [hb i]
      by_cases d : i = k
      · subst d
        rw [c]
        rfl
      · rw [decide_eq_false d, Bool.or_false]
    unfold BI
    rw [e]
    exact ⟨h1, ρ, h2, h3⟩
  · have up : ∀ i, bt x i = true → bt (x ||| ((1 : Int32) <<< (Int32.ofNat k &&& 31))) i = true := fun i hi => by rw [hb i, hi]; rfl
    have hk' : bt (x ||| ((1 : Int32) <<< (Int32.ofNat k &&& 31))) k = true := by rw [hb k, decide_eq_true rfl, Bool.or_true]
    have cl := cb_lt (f := bt x) (g := bt (x ||| ((1 : Int32) <<< (Int32.ofNat k &&& 31)))) up c hk' (n := 12) (by omega)
    have old : ∀ i, bt (x ||| ((1 : Int32) <<< (Int32.ofNat k &&& 31))) i = true → i = k ∨ bt x i = true := fun i hi => by
      rw [hb i] at hi
      by_cases d : i = k
      · exact Or.inl d
      · rw [decide_eq_false d, Bool.or_false] at hi
        exact Or.inr hi
    have nk : ∀ i, bt x i = true → i ≠ k := fun i hi e => c (by rw [← e]; exact hi)
    refine ⟨fun i hi => ?_, fun i => if i = k then cb (bt x) 12 else ρ i, fun i hi => ?_, fun i hi ht t hx => ?_⟩
    · rcases old i hi with e | e
      · omega
      · exact h1 i e
    · dsimp only
      rcases old i hi with e | e
      · rw [if_pos e]
        exact cl
      · rw [if_neg (nk i e)]
        have := h2 i e
        omega
    · dsimp only
      by_cases e : i = k
      · subst e
        rcases hs with hs | hs
        · exact absurd ht hs
        · have b := hs t hx
          refine ⟨up t b, ?_⟩
          rw [if_pos rfl, if_neg (nk t b)]
          exact h2 t b
      · rcases old i hi with e' | e'
        · exact absurd e' e
        · obtain ⟨b1, b2⟩ := h3 i e' ht t hx
          refine ⟨up t b1, ?_⟩
          rw [if_neg (nk t b1), if_neg e]
          exact b2
theorem x_round {T : Nat → Nat} {S : AS} {f n : Nat} {r : Nat → Nat} (hT : TI T S) (h : DR T S f n r) (hsr : SR S) {k4 : AS → Option Nat → Int32 → Int32 → Option (Int32 × AS)} {x0 x2 : Int32} {Q : Int32 × AS → Prop}
    (hk : ∀ x, (∀ i, bt x0 i = true → bt x i = true) → BI S n x → (∀ k, k < n → (¬ te S 96 k ∨ ∀ t, nx S 96 k t → bt x0 t = true) → bt x k = true) → Ho (k4 S (some f) x (x2 + 1)) Q) :
    ∀ m j fu, j + m = n → m < fu → ∀ x, (∀ i, bt x0 i = true → bt x i = true) → BI S n x → (∀ k, k < j → (¬ te S 96 k ∨ ∀ t, nx S 96 k t → bt x0 t = true) → bt x k = true) → Ho (f_Flow_hasLoopOfTests_L14 k4 fu S (some f) x x2 (Int32.ofNat j)) Q := by
  obtain ⟨K4, Kf, Kr, -⟩ := DR_K hT h
  have hn := h.2.2.1
  intro m
  induction m with
  | zero =>
    intro j fu h1 h2 x ha hb hc
    obtain ⟨fu, rfl⟩ : ∃ g, fu = g + 1 := ⟨fu - 1, by omega⟩
    have hj : j = n := by omega
    subst hj
    unfold f_Flow_hasLoopOfTests_L14 f_Flow_hasLoopOfTests_C14
    rw [x_g Kf h.2.2.2.1, Option.bind_some, if_pos ((nat_le hn hn).mpr (Nat.le_refl _)), Option.bind_some]
    exact hk x ha hb hc
  | succ m ih =>
    intro j fu h1 h2 x ha hb hc
    obtain ⟨fu, rfl⟩ : ∃ g, fu = g + 1 := ⟨fu - 1, by omega⟩
    have hj : j < n := by omega
    unfold f_Flow_hasLoopOfTests_L14 f_Flow_hasLoopOfTests_C14
    rw [x_g Kf h.2.2.2.1, Option.bind_some, if_neg (fun q => by have := (nat_le hn (by omega)).mp q; omega), ti_rv Kf, Option.bind_some]
    have put : (¬ te S 96 j ∨ ∀ t, nx S 96 j t → bt x t = true) → Ho (f_Flow_hasLoopOfTests_B56 k4 (f_Flow_hasLoopOfTests_L14 k4 fu) S (some f) x x2 (Int32.ofNat j)) Q := fun hs => by
      unfold f_Flow_hasLoopOfTests_B56 f_Flow_hasLoopOfTests_B62
      rw [Option.bind_some, Option.bind_some, nat1]
      have hb2 := fun i => bt_set (x := x) (k := j) (by omega) i
      refine ih (j + 1) fu (by omega) (by omega) _ (fun i hi => by rw [hb2 i, ha i hi]; rfl) (BI_set hn hb hj hs) (fun k hk hs' => ?_)
      rw [hb2 k]
      by_cases c : k = j
      · rw [decide_eq_true c, Bool.or_true]
      · rw [hc k (by omega) hs']
        rfl
    have skip : (te S 96 j ∧ ∃ t, nx S 96 j t ∧ ¬ bt x t = true) → Ho (f_Flow_hasLoopOfTests_B62 k4 (f_Flow_hasLoopOfTests_L14 k4 fu) S (some f) x x2 (Int32.ofNat j)) Q := fun hs => by
      unfold f_Flow_hasLoopOfTests_B62
      rw [Option.bind_some, nat1]
      refine ih (j + 1) fu (by omega) (by omega) _ ha hb (fun k hk hs' => ?_)
      by_cases c : k = j
      · subst c
        obtain ⟨h5, t, h6, h7⟩ := hs
        rcases hs' with q | q
        · exact absurd h5 q
        · exact absurd (ha t (q t h6)) h7
      · exact hc k (by omega) hs'
    refine r_Te hT h hj (fun ht => ?_) (fun ht => ?_)
    · obtain ⟨y1, y2⟩ := (hsr (96 + j) (by omega)).2 (by have := ht.2; omega)
      rw [if_neg (by decide : ¬ (1 : Int32) = 0), ti_rv Kf, Option.bind_some, x_nx1 hT h hj, b2_s]
      refine r_Lv y1 (fun l1 => ?_) (fun l1 => ?_)
      · rw [if_neg (by decide : ¬ (1 : Int32) = 0), ti_rv Kf, Option.bind_some, x_nx0 hT h hj, b2_s]
        refine r_Lv y2 (fun l2 => ?_) (fun l2 => ?_)
        · rw [if_neg (by decide : ¬ (1 : Int32) = 0)]
          exact put (Or.inr (fun t q => q.elim (l1 t) (l2 t)))
        · rw [if_pos rfl]
          obtain ⟨t, q1, q2⟩ := l2
          exact skip ⟨ht, t, Or.inr q1, q2⟩
      · rw [if_pos rfl]
        obtain ⟨t, q1, q2⟩ := l1
        exact skip ⟨ht, t, Or.inl q1, q2⟩
    · rw [if_pos rfl]
      exact put (Or.inl ht)
theorem some_good {S : AS} {n : Nat} {x : Int32} {ρ : Nat → Nat} (hx : nxin S 96 n) (hr : rnk S 96 n ρ) : ∀ m k, ρ k < m → k < n → ¬ bt x k = true → ∃ k', k' < n ∧ ¬ bt x k' = true ∧ (¬ te S 96 k' ∨ ∀ t, nx S 96 k' t → bt x t = true)
  | 0, k, h, _, _ => absurd h (Nat.not_lt_zero _)
  | m + 1, k, h, hk, hb => by
    by_cases c : te S 96 k
    · by_cases d : ∀ t, nx S 96 k t → bt x t = true
      · exact ⟨k, hk, hb, Or.inr d⟩
      · obtain ⟨t, d⟩ := Classical.not_forall.mp d
        have d1 : nx S 96 k t := Classical.byContradiction fun q => d (fun z => absurd z q)
        have d2 : ¬ bt x t = true := fun q => d (fun _ => q)
        have ht := nxin_t hx hk (by have := c.2; omega) d1
        by_cases e : te S 96 t
        · have := hr.2 k hk c t d1 e
          exact some_good hx hr m t (by omega) ht d2
        · exact ⟨t, ht, d2, Or.inl e⟩
    · exact ⟨k, hk, hb, Or.inl c⟩
theorem msk : ∀ n, n ≤ 12 → ∀ j, j < 32 → bt (((1 : Int32) <<< (Int32.ofNat n &&& 31)) - 1) j = decide (j < n) := by decide +kernel
theorem cb_dec : ∀ n, n ≤ 12 → cb (fun i => decide (i < n)) 12 = n := by decide +kernel
theorem x_loop {T : Nat → Nat} {S : AS} {f n : Nat} {r : Nat → Nat} (hT : TI T S) (h : DR T S f n r) (hsr : SR S) (hx : nxin S 96 n) : Ho (f_Flow_hasLoopOfTests S (some f)) (fun q => q.2 = S ∧ ((q.1 = 0 ∧ ∃ ρ, rnk S 96 n ρ) ∨ (q.1 = 1 ∧ ¬ ∃ ρ, rnk S 96 n ρ))) := by
  obtain ⟨K4, Kf, Kr, -⟩ := DR_K hT h
  have hn := h.2.2.1
  have key : ∀ m i fu, i + m = n → m < fu → ∀ x, BI S n x → ((∃ ρ, rnk S 96 n ρ) → i ≤ cb (bt x) 12 ∨ ∀ k, k < n → bt x k = true) → Ho (f_Flow_hasLoopOfTests_L4 fu S (some f) x (Int32.ofNat i)) (fun q => q.2 = S ∧ ((q.1 = 0 ∧ ∃ ρ, rnk S 96 n ρ) ∨ (q.1 = 1 ∧ ¬ ∃ ρ, rnk S 96 n ρ))) := by
    intro m
    induction m with
    | zero =>
      intro i fu h1 h2 x hb hr
      obtain ⟨fu, rfl⟩ : ∃ g, fu = g + 1 := ⟨fu - 1, by omega⟩
      have hj : i = n := by omega
      subst hj
      unfold f_Flow_hasLoopOfTests_L4 f_Flow_hasLoopOfTests_C4
      rw [x_g Kf h.2.2.2.1, Option.bind_some, if_pos ((nat_le hn hn).mpr (Nat.le_refl _)), Option.bind_some]
      obtain ⟨b1, ρ, b2, b3⟩ := hb
      refine r_if (fun c => r_some ⟨rfl, Or.inl ⟨rfl, ?_⟩⟩) (fun c => r_some ⟨rfl, Or.inr ⟨rfl, fun q => c ?_⟩⟩)
      · have full : ∀ k, k < i → bt x k = true := fun k hk => by
          rw [c, msk i hn k (by omega), decide_eq_true hk]
        have le := cb_le (bt x) 12
        refine ⟨fun k => min (ρ k) 12, fun k => Nat.min_le_right _ _, fun k hk ht t hx' htt => ?_⟩
        obtain ⟨z1, z2⟩ := b3 k (full k hk) ht t hx'
        have := b2 k (full k hk)
        dsimp only
        omega
      · have full : ∀ k, k < i → bt x k = true := by
          rcases hr q with q | q
          · intro k hk
            refine Classical.byContradiction fun d => ?_
            have := cb_lt (f := bt x) (g := fun j => decide (j < i)) (fun j hj => decide_eq_true (b1 j hj)) d (decide_eq_true hk) (n := 12) (by omega)
            rw [cb_dec i hn] at this
            omega
          · exact q
        refine bt_ext (fun j hj => ?_)
        rw [msk i hn j hj]
        by_cases d : j < i
        · rw [full j d, decide_eq_true d]
        · rw [decide_eq_false d]
          cases e : bt x j with
          | false => rfl
          | true => exact absurd (b1 j e) d
    | succ m ih =>
      intro i fu h1 h2 x hb hr
      obtain ⟨fu, rfl⟩ : ∃ g, fu = g + 1 := ⟨fu - 1, by omega⟩
      have hj : i < n := by omega
      unfold f_Flow_hasLoopOfTests_L4 f_Flow_hasLoopOfTests_C4
      rw [x_g Kf h.2.2.2.1, Option.bind_some, if_neg (fun q => by have := (nat_le hn (by omega)).mp q; omega)]
      refine x_round hT h hsr (x0 := x) (fun x' m1 m2 m3 => ?_) n 0 kr_FU (by omega) (by show n < 2000; omega) x (fun _ q => q) hb (fun k hk => absurd hk (Nat.not_lt_zero _))
      rw [nat1]
      refine ih (i + 1) fu (by omega) (by omega) x' m2 (fun q => ?_)
      by_cases full : ∀ k, k < n → bt x' k = true
      · exact Or.inr full
      · have nf : ∃ k, k < n ∧ ¬ bt x k = true := by
          obtain ⟨k, hk⟩ := Classical.not_forall.mp full
          exact ⟨k, Classical.byContradiction fun z => hk (fun y => absurd y z), fun z => hk (fun _ => m1 k z)⟩
        obtain ⟨k0, hk0, hb0⟩ := nf
        obtain ⟨ρ, hρ⟩ := q
        obtain ⟨k', g1, g2, g3⟩ := some_good hx hρ (ρ k0 + 1) k0 (Nat.lt_succ_self _) hk0 hb0
        have := cb_lt (f := bt x) (g := bt x') m1 g2 (m3 k' g1 g3) (n := 12) (by omega)
        rcases hr ⟨ρ, hρ⟩ with z | z
        · exact Or.inl (by omega)
        · exact absurd (z k' g1) g2
  unfold f_Flow_hasLoopOfTests
  exact key n 0 kr_FU (by omega) (by show n < 2000; omega) 0 ⟨fun i hi => (by rw [bt_0] at hi; cases hi), fun _ => 0, fun k hk => (by rw [bt_0] at hk; cases hk), fun k hk => (by rw [bt_0] at hk; cases hk)⟩ (fun _ => Or.inl (Nat.zero_le _))
