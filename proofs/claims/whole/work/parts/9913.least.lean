/-! the least that any handler could do -/
theorem dp_adj {K : aK} {L F : Nat} {H : Nat → Nat} {c0 : aC} {k : Nat} (hw : wfK K L F H) (hty : tyC L H c0) (hl : ∀ i, i < k → 1 ≤ dp K c0 i ∧ dp K c0 i ≤ 60) : ∀ i, i < k → tyC L H (aIt K i c0) ∧ (dp K c0 (i + 1) = dp K c0 i + 1 ∨ dp K c0 (i + 1) + 1 = dp K c0 i) := by
  intro i
  induction i with
  | zero =>
    intro hi
    have h0 := hl 0 hi
    have e1 : dp K c0 1 = (aStp K c0).1 := rfl
    refine ⟨hty, ?_⟩
    have ec : c0.1 = dp K c0 0 := rfl
    rcases (stp_ty hw hty).2.2 with ⟨-, -, z⟩ | ⟨-, f, -, -, ⟨-, -, z⟩ | ⟨y, -, z⟩⟩
    · right
      rw [show (0 : Nat) + 1 = 1 from rfl]
      omega
    · left
      rw [show (0 : Nat) + 1 = 1 from rfl]
      omega
    · left
      rw [show (0 : Nat) + 1 = 1 from rfl]
      omega
  | succ i ih =>
    intro hi
    obtain ⟨t1, -⟩ := ih (by omega)
    have hi1 := hl (i + 1) hi
    have hi0 := hl i (by omega)
    have e1 : aIt K (i + 1) c0 = aStp K (aIt K i c0) := aIt_s i c0
    have t2 : tyC L H (aIt K (i + 1) c0) := by
      rw [e1]
      have : dp K c0 (i + 1) = (aStp K (aIt K i c0)).1 := by unfold dp; rw [e1]
      exact (stp_ty hw t1).2.1 (by omega) (by omega)
    refine ⟨t2, ?_⟩
    have e2 : dp K c0 (i + 1 + 1) = (aStp K (aIt K (i + 1) c0)).1 := by unfold dp; rw [aIt_s]
    have ec : (aIt K (i + 1) c0).1 = dp K c0 (i + 1) := rfl
    rcases (stp_ty hw t2).2.2 with ⟨-, -, z⟩ | ⟨-, f, -, -, ⟨-, -, z⟩ | ⟨y, -, z⟩⟩ <;> omega
/-- what the costs of both sides rest on -/
def LeS (K : aK) (c0 : aC) (k a b w Bd : Nat) (σ τ : zS) : Prop := (a ≤ 99 ∧ b ≤ 99) ∧ (∀ i, i ≤ k → σ.1 389 i = nI (dp K c0 i)) ∧ (∀ i, i ≤ k → τ.1 494 i = if i = 0 ∨ dp K c0 (i - 1) < dp K c0 i then 1 else 0) ∧ p_X1_now σ ∧ σ.1 (f_X1_now σ) 4 = nI a ∧ σ.1 (f_X1_now σ) 5 = nI b ∧ τ.1 469 8 = nI a ∧ τ.1 469 9 = nI b ∧ ∀ r, 1 ≤ r → r ≤ w → ∃ c, c ≤ Bd ∧ σ.1 393 r = nI c ∧ τ.1 496 r = nI c
section LE
variable {K : aK} {c0 : aC} {k a b w Bd N : Nat} {σ τ σ1 τ1 : zS}
theorem LeS.now (h : ∀ q j, ¬ (392 ≤ q ∧ q ≤ 393) → σ1.1 q j = σ.1 q j) (hr : σ1.2 = σ.2) : f_X1_now σ1 = f_X1_now σ ∧ (p_X1_now σ → p_X1_now σ1) := by
  unfold f_X1_now p_X1_now
  rw [h 30 1 (by omega), hr]
  exact ⟨rfl, fun z => z⟩
theorem LeS.c (h : LeS K c0 k a b w Bd σ τ) (j : Nat) (hj : j ≤ w) (hw : w ≤ 12) : f_X8_trapCost (nI j) σ = nI (a + j * b) ∧ p_X8_trapCost (nI j) σ ∧ (τ.1 469 8) + (nI j * (τ.1 469 9)) = nI (a + j * b) ∧ a + j * b ≤ 1287 := by
  obtain ⟨⟨ha, hb⟩, -, -, h4, h5, h6, h7, h8, -⟩ := h
  unfold f_X8_trapCost p_X8_trapCost
  rw [h5, h6, h7, h8, pk_mul, nI_add]
  have := Nat.mul_le_mul (show j ≤ 12 by omega) hb
  exact ⟨rfl, h4, rfl, by omega⟩
theorem mn1 {c v : Nat} (hc : c < 2 ^ 30) (hv : v < 2 ^ 30) : (if nI c < nI v then nI c else nI v) = nI (if c < v then c else v) ∧ f_X9_less (nI v) (nI c) = nI (if c < v then c else v) := by
  unfold f_X9_less
  by_cases z : c < v
  · rw [if_pos (nI_lt z (by omega)), if_pos z, if_pos (nI_le (by omega) (by omega))]
    exact ⟨rfl, rfl⟩
  · rw [if_neg (nI_nlt (by omega) (by omega)), if_neg z]
    refine ⟨rfl, ?_⟩
    by_cases z2 : c ≤ v
    · rw [if_pos (nI_le z2 (by omega)), show c = v by omega]
    · rw [if_neg (nI_ge (by omega) (by omega))]
theorem mn0 {c : Nat} (hc : c < 2 ^ 29) : (if nI c < 2147483647 then nI c else 2147483647) = nI c ∧ f_X9_less 536870912 (nI c) = nI c := by
  unfold f_X9_less
  have h1 : nI c < nI 2147483647 := nI_lt (by omega) (by decide)
  have h2 : nI c ≤ nI 536870912 := nI_le (by omega) (by decide)
  exact ⟨if_pos h1, if_pos h2⟩
theorem pr_lcl (h : LeS K c0 k a b w Bd σ τ) (hw : 2 ≤ w ∧ w ≤ 12) (hB : Bd < 2 ^ 28) : ∀ (m j v : Nat), j + m = w → 1 ≤ j → v ≤ Bd + 1287 → ∀ z y, m < z → m < y → q_X8_leastOfCall N z (nI w) (nI w) (nI v) (nI j) σ ∧ q_X9_callCost N y (nI w) (nI w) (nI v) (nI j) τ ∧ ∃ v', v' ≤ Bd + 1287 ∧ l_X8_leastOfCall N z (nI w) (nI w) (nI v) (nI j) σ = nI v' ∧ l_X9_callCost N y (nI w) (nI w) (nI v) (nI j) τ = nI v' := by
  intro m
  induction m with
  | zero =>
    intro j v hj j1 hv z y hz hy
    obtain ⟨z, rfl⟩ : ∃ q, z = q + 1 := ⟨z - 1, by omega⟩
    obtain ⟨y, rfl⟩ : ∃ q, y = q + 1 := ⟨y - 1, by omega⟩
    have c : nI w ≤ nI j := nI_le (by omega) (by omega)
    rw [q_X8_leastOfCall, q_X9_callCost, l_X8_leastOfCall, l_X9_callCost, if_pos c, if_pos c]
    exact ⟨fun q => absurd c q, fun q => absurd c q, v, hv, rfl, rfl⟩
  | succ m ih =>
    intro j v hj j1 hv z y hz hy
    obtain ⟨z, rfl⟩ : ∃ q, z = q + 1 := ⟨z - 1, by omega⟩
    obtain ⟨y, rfl⟩ : ∃ q, y = q + 1 := ⟨y - 1, by omega⟩
    have c : ¬ nI w ≤ nI j := nI_ge (by omega) (by omega)
    obtain ⟨t1, t2, t3, t4⟩ := h.c j (by omega) hw.2
    obtain ⟨cb, c1, c2, c3⟩ := h.2.2.2.2.2.2.2.2 (w - j + 1) (by omega) (by omega)
    have ei : nI w - nI j + 1 = nI (w - j + 1) := by rw [pk_sub (by omega), nI_1]
    obtain ⟨m1, m2⟩ := mn1 (c := a + j * b + cb) (v := v) (by omega) (by omega)
    obtain ⟨i1, i2, v', i3, i4, i5⟩ := ih (j + 1) (if a + j * b + cb < v then a + j * b + cb else v) (by omega) (by omega) (by split <;> omega) z y (by omega) (by omega)
    rw [q_X8_leastOfCall, q_X9_callCost, l_X8_leastOfCall, l_X9_callCost, if_neg c, if_neg c, ei, t1, t3, at_i (by omega) (by decide), nI_clamp (by omega), c2, c3, nI_add, m1, m2, nI_1]
    exact ⟨fun _ => ⟨t2, at_p (by decide), i1⟩, fun _ => ⟨vp_in_nI (by omega) (by decide), i2⟩, v', i3, i4, i5⟩
theorem pr_call (h : LeS K c0 k a b w Bd σ τ) (hw : 2 ≤ w ∧ w ≤ 12) (hB : Bd < 2 ^ 28) (hN : 20 < N) {r : Nat} (hr : 1 ≤ r ∧ r ≤ w) : p_X8_leastOfCall (nI r) (nI w) N σ ∧ p_X9_callCost (nI r) (nI w) N τ ∧ ∃ v, v ≤ Bd + 1287 ∧ f_X8_leastOfCall (nI r) (nI w) N σ = nI v ∧ f_X9_callCost (nI r) (nI w) N τ = nI v := by
  unfold p_X8_leastOfCall p_X9_callCost f_X8_leastOfCall f_X9_callCost
  by_cases c : r < w
  · have n1 : ¬ nI w ≤ nI r := nI_ge c (by omega)
    obtain ⟨cb, c1, c2, c3⟩ := h.2.2.2.2.2.2.2.2 (r + 1) (by omega) (by omega)
    rw [if_neg n1, if_neg n1, nI_1, at_i (by omega) (by decide), nI_clamp (by omega), c2, c3]
    exact ⟨⟨fun y => absurd y n1, fun _ => at_p (by decide)⟩, ⟨fun y => absurd y n1, fun _ => vp_in_nI (by omega) (by decide)⟩, cb, by omega, rfl, rfl⟩
  · obtain rfl : r = w := by omega
    have y1 : nI r ≤ nI r := Int32.le_refl _
    obtain ⟨z, rfl⟩ : ∃ z, N = z + 1 := ⟨N - 1, by omega⟩
    obtain ⟨t1, t2, t3, t4⟩ := h.c 1 (by omega) hw.2
    obtain ⟨cb, c1, c2, c3⟩ := h.2.2.2.2.2.2.2.2 (r - 1 + 1) (by omega) (by omega)
    have ei : nI r - nI 1 + 1 = nI (r - 1 + 1) := by rw [pk_sub (by omega), nI_1]
    have n1 : ¬ nI r ≤ nI 1 := nI_ge (by omega) (by omega)
    obtain ⟨m1, m2⟩ := mn0 (c := a + 1 * b + cb) (by omega)
    obtain ⟨i1, i2, v', i3, i4, i5⟩ := pr_lcl (N := z + 1) h hw hB (r - 2) 2 (a + 1 * b + cb) (by omega) (by omega) (by omega) z z (by omega) (by omega)
    rw [if_pos y1, if_pos y1]
    have e8 : l_X8_leastOfCall (z + 1) (z + 1) (nI r) (nI r) 2147483647 1 σ = l_X8_leastOfCall (z + 1) z (nI r) (nI r) (nI (a + 1 * b + cb)) (nI 2) σ := by
      rw [show (1 : Int32) = nI 1 from rfl, l_X8_leastOfCall, if_neg n1, ei, t1, at_i (by omega) (by decide), c2, nI_add, m1]
      rfl
    have e9 : l_X9_callCost (z + 1) (z + 1) (nI r) (nI r) 536870912 1 τ = l_X9_callCost (z + 1) z (nI r) (nI r) (nI (a + 1 * b + cb)) (nI 2) τ := by
      rw [show (1 : Int32) = nI 1 from rfl, l_X9_callCost, if_neg n1, ei, t3, nI_clamp (by omega), c3, nI_add, m2]
      rfl
    have q8 : q_X8_leastOfCall (z + 1) (z + 1) (nI r) (nI r) 2147483647 1 σ := by
      rw [show (1 : Int32) = nI 1 from rfl, q_X8_leastOfCall, ei, t1, at_i (by omega) (by decide), c2, nI_add, m1]
      exact fun _ => ⟨t2, at_p (by decide), i1⟩
    have q9 : q_X9_callCost (z + 1) (z + 1) (nI r) (nI r) 536870912 1 τ := by
      rw [show (1 : Int32) = nI 1 from rfl, q_X9_callCost, ei, t3, nI_clamp (by omega), c3, nI_add, m2]
      exact fun _ => ⟨vp_in_nI (by omega) (by decide), i2⟩
    rw [e8, e9]
    exact ⟨⟨fun _ => q8, fun y => absurd y1 y⟩, ⟨fun _ => q9, fun y => absurd y1 y⟩, v', i3, i4, i5⟩
theorem pr_lrl (h : LeS K c0 k a b w Bd σ τ) (hw : 2 ≤ w ∧ w ≤ 12) (hB : Bd < 2 ^ 28) {fl : Nat} {r : Int32} (hfl : fl ≤ 60) : ∀ (m j v : Nat), j + m = w + 1 → 1 ≤ j → v ≤ Bd + 1287 → ∀ z y, m < z → m < y → q_X8_leastOfReturn N z r (nI fl) (nI w) (nI v) (nI j) σ ∧ q_X9_returnCost N y r (nI w) (nI (fl + 1)) (nI v) (nI j) τ ∧ ∃ v', v' ≤ Bd + 1287 ∧ l_X8_leastOfReturn N z r (nI fl) (nI w) (nI v) (nI j) σ = nI v' ∧ l_X9_returnCost N y r (nI w) (nI (fl + 1)) (nI v) (nI j) τ = nI v' := by
  intro m
  induction m with
  | zero =>
    intro j v hj j1 hv z y hz hy
    obtain ⟨z, rfl⟩ : ∃ q, z = q + 1 := ⟨z - 1, by omega⟩
    obtain ⟨y, rfl⟩ : ∃ q, y = q + 1 := ⟨y - 1, by omega⟩
    have c : nI w < nI j := nI_lt (by omega) (by omega)
    rw [q_X8_leastOfReturn, q_X9_returnCost, l_X8_leastOfReturn, l_X9_returnCost, if_pos c, if_pos c]
    exact ⟨fun q => absurd c q, fun q => absurd c q, v, hv, rfl, rfl⟩
  | succ m ih =>
    intro j v hj j1 hv z y hz hy
    obtain ⟨z, rfl⟩ : ∃ q, z = q + 1 := ⟨z - 1, by omega⟩
    obtain ⟨y, rfl⟩ : ∃ q, y = q + 1 := ⟨y - 1, by omega⟩
    have c : ¬ nI w < nI j := nI_nlt (by omega) (by omega)
    by_cases cf : fl < j
    · have c1 : nI fl < nI j := nI_lt cf (by omega)
      have c2 : nI (fl + 1) ≤ nI j := nI_le cf (by omega)
      rw [q_X8_leastOfReturn, q_X9_returnCost, l_X8_leastOfReturn, l_X9_returnCost, if_neg c, if_neg c, if_pos c1, if_pos c2]
      exact ⟨fun _ q => absurd c1 q, fun _ q => absurd c2 q, v, hv, rfl, rfl⟩
    · have d1 : ¬ nI fl < nI j := nI_nlt (by omega) (by omega)
      have d2 : ¬ nI (fl + 1) ≤ nI j := nI_ge (by omega) (by omega)
      obtain ⟨t1, t2, t3, t4⟩ := h.c j (by omega) hw.2
      obtain ⟨cb, c1, c2, c3⟩ := h.2.2.2.2.2.2.2.2 j (by omega) (by omega)
      obtain ⟨m1, m2⟩ := mn1 (c := a + j * b + cb) (v := v) (by omega) (by omega)
      obtain ⟨i1, i2, v', i3, i4, i5⟩ := ih (j + 1) (if a + j * b + cb < v then a + j * b + cb else v) (by omega) (by omega) (by split <;> omega) z y (by omega) (by omega)
      rw [q_X8_leastOfReturn, q_X9_returnCost, l_X8_leastOfReturn, l_X9_returnCost, if_neg c, if_neg c, if_neg d1, if_neg d2, t1, t3, at_i (by omega) (by decide), nI_clamp (by omega), c2, c3, nI_add, m1, m2, nI_1]
      exact ⟨fun _ _ => ⟨t2, at_p (by decide), i1⟩, fun _ _ => ⟨vp_in_nI (by omega) (by decide), i2⟩, v', i3, i4, i5⟩
theorem pr_ret (h : LeS K c0 k a b w Bd σ τ) (hw : 2 ≤ w ∧ w ≤ 12) (hB : Bd < 2 ^ 28) (hN : 20 < N) {r fl : Nat} (hr : 1 ≤ r ∧ r ≤ w) (hfl : fl ≤ 60) : p_X8_leastOfReturn (nI r) (nI fl) (nI w) N σ ∧ p_X9_returnCost (nI r) (nI w) (nI (fl + 1)) N τ ∧ ∃ v, v ≤ Bd + 1287 ∧ f_X8_leastOfReturn (nI r) (nI fl) (nI w) N σ = nI v ∧ f_X9_returnCost (nI r) (nI w) (nI (fl + 1)) N τ = nI v := by
  unfold p_X8_leastOfReturn p_X9_returnCost f_X8_leastOfReturn f_X9_returnCost
  by_cases c0 : fl = 0
  · subst c0
    have y0 : nI 0 = 0 := rfl
    have y1 : nI (0 + 1) = 1 := rfl
    rw [if_pos y0, if_pos y1]
    exact ⟨fun y => absurd y0 y, fun y => absurd y1 y, 0, by omega, rfl, rfl⟩
  · have n0 : ¬ nI fl = 0 := nI_ne0 (by omega) (by omega)
    have n1 : ¬ nI (fl + 1) = 1 := fun z => by
      have := (nI_eq (b := 1) (by omega) (by decide)).mp z
      omega
    rw [if_neg n0, if_neg n1]
    by_cases c : r ≤ 1
    · have y1 : nI r ≤ 1 := nI_le (b := 1) c (by decide)
      obtain ⟨z, rfl⟩ : ∃ z, N = z + 1 := ⟨N - 1, by omega⟩
      obtain ⟨t1, t2, t3, t4⟩ := h.c 1 (by omega) hw.2
      obtain ⟨cb, c1, c2, c3⟩ := h.2.2.2.2.2.2.2.2 1 (by omega) (by omega)
      have g1 : ¬ nI w < nI 1 := nI_nlt (by omega) (by omega)
      have g2 : ¬ nI fl < nI 1 := nI_nlt (by omega) (by omega)
      have g3 : ¬ nI (fl + 1) ≤ nI 1 := nI_ge (by omega) (by omega)
      obtain ⟨m1, m2⟩ := mn0 (c := a + 1 * b + cb) (by omega)
      obtain ⟨i1, i2, v', i3, i4, i5⟩ := pr_lrl (N := z + 1) (r := nI r) h hw hB hfl (w - 1) 2 (a + 1 * b + cb) (by omega) (by omega) (by omega) z z (by omega) (by omega)
      rw [if_pos y1, if_pos y1]
      have e8 : l_X8_leastOfReturn (z + 1) (z + 1) (nI r) (nI fl) (nI w) 2147483647 1 σ = l_X8_leastOfReturn (z + 1) z (nI r) (nI fl) (nI w) (nI (a + 1 * b + cb)) (nI 2) σ := by
        rw [show (1 : Int32) = nI 1 from rfl, l_X8_leastOfReturn, if_neg g1, if_neg g2, t1, at_i (by omega) (by decide), c2, nI_add, m1]
        rfl
      have e9 : l_X9_returnCost (z + 1) (z + 1) (nI r) (nI w) (nI (fl + 1)) 536870912 1 τ = l_X9_returnCost (z + 1) z (nI r) (nI w) (nI (fl + 1)) (nI (a + 1 * b + cb)) (nI 2) τ := by
        rw [show (1 : Int32) = nI 1 from rfl, l_X9_returnCost, if_neg g1, if_neg g3, t3, nI_clamp (by omega), c3, nI_add, m2]
        rfl
      have q8 : q_X8_leastOfReturn (z + 1) (z + 1) (nI r) (nI fl) (nI w) 2147483647 1 σ := by
        rw [show (1 : Int32) = nI 1 from rfl, q_X8_leastOfReturn, t1, at_i (by omega) (by decide), c2, nI_add, m1]
        exact fun _ _ => ⟨t2, at_p (by decide), i1⟩
      have q9 : q_X9_returnCost (z + 1) (z + 1) (nI r) (nI w) (nI (fl + 1)) 536870912 1 τ := by
        rw [show (1 : Int32) = nI 1 from rfl, q_X9_returnCost, t3, nI_clamp (by omega), c3, nI_add, m2]
        exact fun _ _ => ⟨vp_in_nI (by omega) (by decide), i2⟩
      rw [e8, e9]
      exact ⟨fun _ => ⟨fun _ => q8, fun y => absurd y1 y⟩, fun _ => ⟨fun _ => q9, fun y => absurd y1 y⟩, v', i3, i4, i5⟩
    · have y1 : ¬ nI r ≤ 1 := nI_ge (a := 1) (by omega) (by omega)
      obtain ⟨cb, c1, c2, c3⟩ := h.2.2.2.2.2.2.2.2 (r - 1) (by omega) (by omega)
      rw [if_neg y1, if_neg y1, nI_s1 (by omega), at_i (by omega) (by decide), nI_clamp (by omega), c2, c3]
      exact ⟨fun _ => ⟨fun y => absurd y y1, fun _ => at_p (by decide)⟩, fun _ => ⟨fun y => absurd y y1, fun _ => vp_in_nI (by omega) (by decide)⟩, cb, by omega, rfl, rfl⟩
theorem LeS.fr (h : LeS K c0 k a b w Bd σ τ) (h1 : ∀ q j, ¬ q = 392 → σ1.1 q j = σ.1 q j) (hr : σ1.2 = σ.2) (h2 : ∀ q j, ¬ q = 495 → τ1.1 q j = τ.1 q j) : LeS K c0 k a b w Bd σ1 τ1 := by
  obtain ⟨a1, a2, a3, a4, a5, a6, a7, a8, a9⟩ := h
  obtain ⟨n1, n2⟩ := LeS.now (σ := σ) (σ1 := σ1) (fun q j z => h1 q j (by omega)) hr
  have hno : ¬ f_X1_now σ = 392 → σ1.1 (f_X1_now σ) 4 = nI a ∧ σ1.1 (f_X1_now σ) 5 = nI b := fun z => ⟨(h1 _ _ z).trans a5, (h1 _ _ z).trans a6⟩
  have hz : ¬ f_X1_now σ = 392 := by
    intro z
    have : zlay (f_X1_now σ) = (4, 17) := by
      have a4' := a4
      unfold p_X1_now at a4'
      unfold f_X1_now
      by_cases c1 : σ.1 30 1 < 0
      · rw [if_pos c1]
        exact (a4'.1 c1).2
      · rw [if_neg c1]
        by_cases c2 : 13 ≤ σ.1 30 1
        · rw [if_pos c2]
          exact ((a4'.2 c1).1 c2).2
        · rw [if_neg c2]
          exact ((a4'.2 c1).2 c2).2.2
    rw [z] at this
    exact absurd this (by decide)
  refine ⟨a1, fun i hi => (h1 _ _ (by decide)).trans (a2 i hi), fun i hi => (h2 _ _ (by decide)).trans (a3 i hi), n2 a4, by rw [n1]; exact (hno hz).1, by rw [n1]; exact (hno hz).2, (h2 _ _ (by decide)).trans a7, (h2 _ _ (by decide)).trans a8, fun r r1 r2 => ?_⟩
  obtain ⟨c, c1, c2, c3⟩ := a9 r r1 r2
  exact ⟨c, c1, (h1 _ _ (by decide)).trans c2, (h2 _ _ (by decide)).trans c3⟩
theorem pr_in {x : Int32} {i fl fg dd : Nat} (hw : 2 ≤ w ∧ w ≤ 12) (hB : Bd < 2 ^ 28) (hN : 20 < N) (hi : i ≤ 2000) (hfl : fl ≤ 60) (hfg : fg = 1 ∨ (fg = 0 ∧ dd = fl + 1)) : ∀ (m r : Nat) (σ τ : zS), r + m = w + 1 → 1 ≤ r → LeS K c0 k a b w Bd σ τ → τ.1 494 i = nI fg → (∀ r', 1 ≤ r' → r' < r → ∃ c, c ≤ Bd + 1287 ∧ σ.1 392 r' = nI c ∧ τ.1 495 r' = nI c) → ∀ z y zz yy, z = zz + m + 1 → y = yy + m + 1 → ∃ σ1 τ1, l_X8_least N z 1 x (nI w) (nI i) (nI fl) (nI fg) (nI r) σ = l_X8_least N zz 0 x (nI w) (nI i + (-1)) 0 0 0 (zcpy σ1 392 393 0 0 13) ∧ (q_X8_least N zz 0 x (nI w) (nI i + (-1)) 0 0 0 (zcpy σ1 392 393 0 0 13) → q_X8_least N z 1 x (nI w) (nI i) (nI fl) (nI fg) (nI r) σ) ∧ l_X9_least N y 2 x (nI w) (nI dd) (nI i) (nI r) τ = l_X9_least N yy 3 x (nI w) (nI dd) (nI i) (nI 1) τ1 ∧ (q_X9_least N yy 3 x (nI w) (nI dd) (nI i) (nI 1) τ1 → q_X9_least N y 2 x (nI w) (nI dd) (nI i) (nI r) τ) ∧ LeS K c0 k a b w Bd σ1 τ1 ∧ (∀ r', 1 ≤ r' → r' ≤ w → ∃ c, c ≤ Bd + 1287 ∧ σ1.1 392 r' = nI c ∧ τ1.1 495 r' = nI c) ∧ (∀ q j, ¬ q = 392 → σ1.1 q j = σ.1 q j) ∧ σ1.2 = σ.2 ∧ (∀ q j, ¬ q = 495 → τ1.1 q j = τ.1 q j) ∧ τ1.2 = τ.2 := by
  intro m
  induction m with
  | zero =>
    intro r σ τ hr r1 h h4 hc z y zz yy hz hy
    subst hz hy
    have c : nI w < nI r := nI_lt (by omega) (by omega)
    refine ⟨σ, τ, ?_, fun q => ?_, ?_, fun q => ?_, h, fun r' y1 y2 => hc r' y1 (by omega), fun _ _ _ => rfl, rfl, fun _ _ _ => rfl, rfl⟩
    · rw [show zz + 0 + 1 = zz + 1 from rfl, l_X8_least, if_pos c]
      rfl
    · rw [show zz + 0 + 1 = zz + 1 from rfl, q_X8_least]
      exact ⟨fun _ => q, fun y => absurd c y⟩
    · rw [show yy + 0 + 1 = yy + 1 from rfl, l_X9_least, if_pos c]
      rfl
    · rw [show yy + 0 + 1 = yy + 1 from rfl, q_X9_least]
      exact ⟨fun _ => q, fun y => absurd c y⟩
  | succ m ih =>
    intro r σ τ hr r1 h h4 hc z y zz yy hz hy
    subst hz hy
    have c : ¬ nI w < nI r := nI_nlt (by omega) (by omega)
    have ci : (nI i).toNatClampNeg = i := nI_clamp (by omega)
    have vi : vp_in (nI i) 2001 := vp_in_nI (by omega) (by decide)
    have vr : vp_in (nI r) 13 := vp_in_nI (by omega) (by decide)
    have stp : ∀ v, v ≤ Bd + 1287 → ∃ σ1 τ1, l_X8_least N (zz + m + 1) 1 x (nI w) (nI i) (nI fl) (nI fg) (nI (r + 1)) (zuI σ 392 r (nI v)) = l_X8_least N zz 0 x (nI w) (nI i + (-1)) 0 0 0 (zcpy σ1 392 393 0 0 13) ∧ (q_X8_least N zz 0 x (nI w) (nI i + (-1)) 0 0 0 (zcpy σ1 392 393 0 0 13) → q_X8_least N (zz + m + 1) 1 x (nI w) (nI i) (nI fl) (nI fg) (nI (r + 1)) (zuI σ 392 r (nI v))) ∧ l_X9_least N (yy + m + 1) 2 x (nI w) (nI dd) (nI i) (nI (r + 1)) (zuI τ 495 r (nI v)) = l_X9_least N yy 3 x (nI w) (nI dd) (nI i) (nI 1) τ1 ∧ (q_X9_least N yy 3 x (nI w) (nI dd) (nI i) (nI 1) τ1 → q_X9_least N (yy + m + 1) 2 x (nI w) (nI dd) (nI i) (nI (r + 1)) (zuI τ 495 r (nI v))) ∧ LeS K c0 k a b w Bd σ1 τ1 ∧ (∀ r', 1 ≤ r' → r' ≤ w → ∃ c, c ≤ Bd + 1287 ∧ σ1.1 392 r' = nI c ∧ τ1.1 495 r' = nI c) ∧ (∀ q j, ¬ q = 392 → σ1.1 q j = σ.1 q j) ∧ σ1.2 = σ.2 ∧ (∀ q j, ¬ q = 495 → τ1.1 q j = τ.1 q j) ∧ τ1.2 = τ.2 := fun v hv => by
      obtain ⟨σ1, τ1, j1, j2, j3, j4, j5, j6, j7, j8, j9, j10⟩ := ih (r + 1) (zuI σ 392 r (nI v)) (zuI τ 495 r (nI v)) (by omega) (by omega) (h.fr (fun q j z => gI_n (by omega)) rfl (fun q j z => gI_n (by omega))) (by rw [gI_n (by omega)]; exact h4) (fun r' y1 y2 => by
        by_cases e : r' = r
        · subst e
          exact ⟨v, hv, gI_h rfl rfl, gI_h rfl rfl⟩
        · obtain ⟨cc, c1, c2, c3⟩ := hc r' y1 (by omega)
          exact ⟨cc, c1, (gI_n (by omega)).trans c2, (gI_n (by omega)).trans c3⟩) (zz + m + 1) (yy + m + 1) zz yy rfl rfl
      exact ⟨σ1, τ1, j1, j2, j3, j4, j5, j6, fun q j z => (j7 q j z).trans (gI_n (by omega)), j8, fun q j z => (j9 q j z).trans (gI_n (by omega)), j10⟩
    rcases hfg with rfl | ⟨rfl, rfl⟩
    · -- a CALL
      obtain ⟨p1, p2, v, v1, v2, v3⟩ := pr_call (N := N) h hw hB hN (r := r) ⟨r1, by omega⟩
      have e8 : u_X8_least_h1_3 N x (nI w) (nI i) (nI fl) (nI 1) (nI r) σ = zuI σ 392 r (nI v) := by
        unfold u_X8_least_h1_3
        rw [v2, put_i (by omega) (by decide)]
      have e9 : u_X9_least_h2_2 N x (nI w) (nI dd) (nI i) (nI r) τ = zuI τ 495 r (nI v) := by
        unfold u_X9_least_h2_2
        rw [v3, nI_clamp (by omega)]
      have n1 : ¬ nI 1 = 0 := by decide
      obtain ⟨σ1, τ1, j1, j2, j3, j4, j5⟩ := stp v v1
      refine ⟨σ1, τ1, ?_, fun q => ?_, ?_, fun q => ?_, j5⟩
      · rw [show zz + (m + 1) + 1 = (zz + m + 1) + 1 by omega, l_X8_least, if_neg c, if_neg n1, e8, nI_1]
        exact j1
      · rw [show zz + (m + 1) + 1 = (zz + m + 1) + 1 by omega, q_X8_least, e8, nI_1]
        exact ⟨fun y => absurd y c, fun _ => ⟨fun y => absurd y n1, fun _ => ⟨p1, put_p (by decide), j2 q⟩⟩⟩
      · rw [show yy + (m + 1) + 1 = (yy + m + 1) + 1 by omega, l_X9_least, if_neg c, ci, h4, if_neg n1, e9, nI_1]
        exact j3
      · rw [show yy + (m + 1) + 1 = (yy + m + 1) + 1 by omega, q_X9_least, e9, nI_1, ci, h4]
        exact ⟨fun y => absurd y c, fun _ => ⟨vi, fun y => absurd y n1, fun _ => ⟨p2, vr, j4 q⟩⟩⟩
    · -- a RETURN
      obtain ⟨p1, p2, v, v1, v2, v3⟩ := pr_ret (N := N) h hw hB hN (r := r) ⟨r1, by omega⟩ hfl
      have e8 : u_X8_least_h1_2 N x (nI w) (nI i) (nI fl) (nI 0) (nI r) σ = zuI σ 392 r (nI v) := by
        unfold u_X8_least_h1_2
        rw [v2, put_i (by omega) (by decide)]
      have e9 : u_X9_least_h2_1 N x (nI w) (nI (fl + 1)) (nI i) (nI r) τ = zuI τ 495 r (nI v) := by
        unfold u_X9_least_h2_1
        rw [v3, nI_clamp (by omega)]
      have n1 : nI 0 = 0 := rfl
      obtain ⟨σ1, τ1, j1, j2, j3, j4, j5⟩ := stp v v1
      refine ⟨σ1, τ1, ?_, fun q => ?_, ?_, fun q => ?_, j5⟩
      · rw [show zz + (m + 1) + 1 = (zz + m + 1) + 1 by omega, l_X8_least, if_neg c, if_pos n1, e8, nI_1]
        exact j1
      · rw [show zz + (m + 1) + 1 = (zz + m + 1) + 1 by omega, q_X8_least, e8, nI_1]
        exact ⟨fun y => absurd y c, fun _ => ⟨fun _ => ⟨p1, put_p (by decide), j2 q⟩, fun y => absurd n1 y⟩⟩
      · rw [show yy + (m + 1) + 1 = (yy + m + 1) + 1 by omega, l_X9_least, if_neg c, ci, h4, if_pos n1, e9, nI_1]
        exact j3
      · rw [show yy + (m + 1) + 1 = (yy + m + 1) + 1 by omega, q_X9_least, e9, nI_1, ci, h4]
        exact ⟨fun y => absurd y c, fun _ => ⟨vi, fun _ => ⟨p2, vr, j4 q⟩, fun y => absurd n1 y⟩⟩
theorem rf_cps {x dd i : Int32} (hw : 2 ≤ w ∧ w ≤ 12) : ∀ (m r : Nat) (τ : zS), r + m = w + 1 → 1 ≤ r → ∀ y yy, y = yy + m + 1 → ∃ τ1, l_X9_least N y 3 x (nI w) dd i (nI r) τ = l_X9_least N yy 1 x (nI w) dd (i + (-1)) 0 τ1 ∧ (q_X9_least N yy 1 x (nI w) dd (i + (-1)) 0 τ1 → q_X9_least N y 3 x (nI w) dd i (nI r) τ) ∧ (∀ r', r ≤ r' → r' ≤ w → τ1.1 496 r' = τ.1 495 r') ∧ (∀ q j, ¬ (q = 496 ∧ r ≤ j) → τ1.1 q j = τ.1 q j) ∧ τ1.2 = τ.2 := by
  intro m
  induction m with
  | zero =>
    intro r τ hr r1 y yy hy
    subst hy
    have c : nI w < nI r := nI_lt (by omega) (by omega)
    refine ⟨τ, ?_, fun q => ?_, fun r' y1 y2 => absurd y1 (by omega), fun _ _ _ => rfl, rfl⟩
    · rw [show yy + 0 + 1 = yy + 1 from rfl, l_X9_least, if_pos c]
    · rw [show yy + 0 + 1 = yy + 1 from rfl, q_X9_least]
      exact ⟨fun _ => q, fun y => absurd c y⟩
  | succ m ih =>
    intro r τ hr r1 y yy hy
    subst hy
    have c : ¬ nI w < nI r := nI_nlt (by omega) (by omega)
    have eu : u_X9_least_h3_1 N x (nI w) dd i (nI r) τ = zuI τ 496 r (τ.1 495 r) := by
      unfold u_X9_least_h3_1
      rw [nI_clamp (by omega)]
    obtain ⟨τ1, j1, j2, j3, j4, j5⟩ := ih (r + 1) (zuI τ 496 r (τ.1 495 r)) (by omega) (by omega) (yy + m + 1) yy rfl
    refine ⟨τ1, ?_, fun q => ?_, fun r' y1 y2 => ?_, fun q j z => ?_, j5⟩
    · rw [show yy + (m + 1) + 1 = (yy + m + 1) + 1 by omega, l_X9_least, if_neg c, eu, nI_1]
      exact j1
    · rw [show yy + (m + 1) + 1 = (yy + m + 1) + 1 by omega, q_X9_least, eu, nI_1]
      exact ⟨fun y => absurd y c, fun _ => ⟨vp_in_nI (by omega) (by decide), j2 q⟩⟩
    · by_cases e : r' = r
      · subst e
        rw [j4 _ _ (by omega), gI_h rfl rfl]
      · rw [j3 r' (by omega) y2, gI_n (by omega)]
    · rw [j4 _ _ (by omega), gI_n (by omega)]
theorem pr_ev {x : Int32} (hw : 2 ≤ w ∧ w ≤ 12) (hk : k ≤ 2000) (hN : 20 < N) (hd : ∀ i, i ≤ k → dp K c0 i ≤ 60) (had : ∀ i, i < k → dp K c0 (i + 1) = dp K c0 i + 1 ∨ dp K c0 (i + 1) + 1 = dp K c0 i) : ∀ (i Bd : Nat) (σ τ : zS), i ≤ k → Bd + 1287 * i < 2 ^ 27 → LeS K c0 k a b w Bd σ τ → ∀ z y, i * 20 + 5 < z → i * 40 + 5 < y → q_X8_least N z 0 x (nI w) (nI i) 0 0 0 σ ∧ q_X9_least N y 1 x (nI w) (nI (dp K c0 i)) (nI i) 0 τ ∧ (l_X8_least N z 0 x (nI w) (nI i) 0 0 0 σ).1 = (l_X9_least N y 1 x (nI w) (nI (dp K c0 i)) (nI i) 0 τ).1 ∧ (∀ q j, ¬ (q = 392 ∨ q = 393) → (l_X8_least N z 0 x (nI w) (nI i) 0 0 0 σ).2.1 q j = σ.1 q j) ∧ (l_X8_least N z 0 x (nI w) (nI i) 0 0 0 σ).2.2 = σ.2 ∧ (∀ q j, ¬ (q = 495 ∨ q = 496) → (l_X9_least N y 1 x (nI w) (nI (dp K c0 i)) (nI i) 0 τ).2.1 q j = τ.1 q j) ∧ (l_X9_least N y 1 x (nI w) (nI (dp K c0 i)) (nI i) 0 τ).2.2 = τ.2 := by
  intro i
  induction i with
  | zero =>
    intro Bd σ τ hi hB h z y hz hy
    obtain ⟨z, rfl⟩ : ∃ q, z = q + 1 := ⟨z - 1, by omega⟩
    obtain ⟨y, rfl⟩ : ∃ q, y = q + 1 := ⟨y - 1, by omega⟩
    have c : nI 0 ≤ 0 := by decide
    obtain ⟨cb, c1, c2, c3⟩ := h.2.2.2.2.2.2.2.2 1 (by omega) (by omega)
    rw [q_X8_least, q_X9_least, l_X8_least, l_X9_least, if_pos c, if_pos c]
    refine ⟨⟨fun _ => at_p (by decide), fun q => absurd c q⟩, fun q => absurd c q, ?_, fun _ _ _ => rfl, rfl, fun _ _ _ => rfl, rfl⟩
    show f_X8_at 13 393 (nI 1) σ = τ.1 496 1
    rw [at_i (by omega) (by decide), c2, c3]
  | succ i ih =>
    intro Bd σ τ hi hB h z y hz hy
    obtain ⟨z, rfl⟩ : ∃ q, z = q + 1 := ⟨z - 1, by omega⟩
    obtain ⟨y, rfl⟩ : ∃ q, y = q + 1 := ⟨y - 1, by omega⟩
    have c : ¬ nI (i + 1) ≤ 0 := nI_nle (by omega) (by omega)
    have d1 := hd (i + 1) hi
    have d0 := hd i (by omega)
    have ea : f_X8_at 3000 389 (nI (i + 1)) σ = nI (dp K c0 (i + 1)) := by rw [at_i (by omega) (by decide)]; exact h.2.1 _ hi
    have eb : f_X8_at 3000 389 (nI (i + 1) - 1) σ = nI (dp K c0 i) := by rw [nI_pred, at_i (by omega) (by decide)]; exact h.2.1 _ (by omega)
    have e4 := h.2.2.1 (i + 1) hi
    rw [Nat.add_sub_cancel] at e4
    have ci : (nI (i + 1)).toNatClampNeg = i + 1 := nI_clamp (by omega)
    have fin : ∀ fg, (fg = 1 ∧ dp K c0 i < dp K c0 (i + 1)) ∨ (fg = 0 ∧ ¬ dp K c0 i < dp K c0 (i + 1)) → τ.1 494 (i + 1) = nI fg → q_X8_least N z 1 x (nI w) (nI (i + 1)) (nI (dp K c0 (i + 1))) (nI fg) (nI 1) σ ∧ q_X9_least N y 2 x (nI w) (nI (dp K c0 i)) (nI (i + 1)) (nI 1) τ ∧ (l_X8_least N z 1 x (nI w) (nI (i + 1)) (nI (dp K c0 (i + 1))) (nI fg) (nI 1) σ).1 = (l_X9_least N y 2 x (nI w) (nI (dp K c0 i)) (nI (i + 1)) (nI 1) τ).1 ∧ (∀ q j, ¬ (q = 392 ∨ q = 393) → (l_X8_least N z 1 x (nI w) (nI (i + 1)) (nI (dp K c0 (i + 1))) (nI fg) (nI 1) σ).2.1 q j = σ.1 q j) ∧ (l_X8_least N z 1 x (nI w) (nI (i + 1)) (nI (dp K c0 (i + 1))) (nI fg) (nI 1) σ).2.2 = σ.2 ∧ (∀ q j, ¬ (q = 495 ∨ q = 496) → (l_X9_least N y 2 x (nI w) (nI (dp K c0 i)) (nI (i + 1)) (nI 1) τ).2.1 q j = τ.1 q j) ∧ (l_X9_least N y 2 x (nI w) (nI (dp K c0 i)) (nI (i + 1)) (nI 1) τ).2.2 = τ.2 := fun fg hfg h4 => by
      have hw1 := had i (by omega)
      obtain ⟨σ1, τ1, j1, j2, j3, j4, j5, j6, j7, j8, j9, j10⟩ := pr_in (N := N) (x := x) (i := i + 1) (fl := dp K c0 (i + 1)) (fg := fg) (dd := dp K c0 i) hw (show Bd < 2 ^ 28 by omega) hN (by omega) d1 (by omega) w 1 σ τ (by omega) (by omega) h h4 (fun r' y1 y2 => absurd y1 (by omega)) z y (z - w - 1) (y - w - 1) (by omega) (by omega)
      obtain ⟨τ2, k1, k2, k3, k4, k5⟩ := rf_cps (N := N) (x := x) (dd := nI (dp K c0 i)) (i := nI (i + 1)) hw w 1 τ1 (by omega) (by omega) (y - w - 1) (y - w - 1 - w - 1) (by omega)
      rw [pk_m1] at j1 j2 k1 k2
      have h' : LeS K c0 k a b w (Bd + 1287) (zcpy σ1 392 393 0 0 13) τ2 := by
        obtain ⟨a1, a2, a3, a4, a5, a6, a7, a8, a9⟩ := j5
        obtain ⟨n1, n2⟩ := LeS.now (σ := σ1) (σ1 := zcpy σ1 392 393 0 0 13) (fun q j z => zcpy_o (by omega)) rfl
        have hz : ¬ f_X1_now σ1 = 393 := by
          intro zz
          have : zlay (f_X1_now σ1) = (4, 17) := by
            have a4' := a4
            unfold p_X1_now at a4'
            unfold f_X1_now
            by_cases c1 : σ1.1 30 1 < 0
            · rw [if_pos c1]
              exact (a4'.1 c1).2
            · rw [if_neg c1]
              by_cases c2 : 13 ≤ σ1.1 30 1
              · rw [if_pos c2]
                exact ((a4'.2 c1).1 c2).2
              · rw [if_neg c2]
                exact ((a4'.2 c1).2 c2).2.2
          rw [zz] at this
          exact absurd this (by decide)
        refine ⟨a1, fun i hi => (zcpy_o (by decide)).trans (a2 i hi), fun i hi => (k4 _ _ (by omega)).trans (a3 i hi), n2 a4, by rw [n1, zcpy_o hz]; exact a5, by rw [n1, zcpy_o hz]; exact a6, (k4 _ _ (by omega)).trans a7, (k4 _ _ (by omega)).trans a8, fun r r1 r2 => ?_⟩
        obtain ⟨cc, c1, c2, c3⟩ := j6 r r1 r2
        exact ⟨cc, c1, (zcpy_in (by omega)).trans c2, (k3 r r1 r2).trans c3⟩
      obtain ⟨i1, i2, i3, i4, i5, i6, i7⟩ := ih (Bd + 1287) (zcpy σ1 392 393 0 0 13) τ2 (by omega) (by omega) h' (z - w - 1) (y - w - 1 - w - 1) (by omega) (by omega)
      rw [j1, j3, k1]
      refine ⟨j2 i1, j4 (k2 i2), i3, fun q j zq => ?_, i5.trans j8, fun q j zq => ?_, i7.trans (k5.trans j10)⟩
      · rw [i4 q j zq, zcpy_o (by omega), j7 q j (by omega)]
      · rw [i6 q j zq, k4 q j (by omega), j9 q j (by omega)]
    rw [q_X8_least, q_X9_least, l_X8_least, l_X9_least, if_neg c, if_neg c, ea, eb, ci]
    by_cases cc : dp K c0 i < dp K c0 (i + 1)
    · rw [if_pos (Or.inr cc)] at e4
      have n1 : ¬ nI (dp K c0 (i + 1)) ≤ nI (dp K c0 i) := nI_ge cc (by omega)
      have ed : nI (dp K c0 (i + 1)) + (-1) = nI (dp K c0 i) := by
        have := had i (by omega)
        rw [show dp K c0 (i + 1) = dp K c0 i + 1 by omega, pk_m1]
      obtain ⟨f1, f2, f3⟩ := fin 1 (Or.inl ⟨rfl, cc⟩) e4
      rw [if_neg n1, e4, if_neg (by decide), ed]
      exact ⟨⟨fun q => absurd q c, fun _ => ⟨at_p (by decide), at_p (by decide), fun q => absurd q n1, fun _ => f1⟩⟩, fun _ => ⟨vp_in_nI (by omega) (by decide), fun q => absurd q (by decide), fun _ => f2⟩, f3⟩
    · rw [if_neg (by omega)] at e4
      have n1 : nI (dp K c0 (i + 1)) ≤ nI (dp K c0 i) := nI_le (by omega) (by omega)
      have ed : nI (dp K c0 (i + 1)) + 1 = nI (dp K c0 i) := by
        have := had i (by omega)
        rw [nI_1]
        congr 1
        omega
      obtain ⟨f1, f2, f3⟩ := fin 0 (Or.inr ⟨rfl, cc⟩) e4
      rw [if_pos n1, e4, if_pos rfl, ed]
      exact ⟨⟨fun q => absurd q c, fun _ => ⟨at_p (by decide), at_p (by decide), fun _ => f1, fun q => absurd n1 q⟩⟩, fun _ => ⟨vp_in_nI (by omega) (by decide), fun _ => f2, fun q => absurd rfl q⟩, f3⟩
theorem rf_lz {x : Int32} (hw : 2 ≤ w ∧ w ≤ 12) : ∀ (m r : Nat) (τ : zS), r + m = w + 1 → ∀ y yy, y = yy + m + 1 → ∃ τ1, l_X9_least N y 0 x (nI w) 0 (nI r) 0 τ = l_X9_least N yy 1 x (nI w) 0 ((τ1.1 468 45) - 1) 0 τ1 ∧ (q_X9_least N yy 1 x (nI w) 0 ((τ1.1 468 45) - 1) 0 τ1 → q_X9_least N y 0 x (nI w) 0 (nI r) 0 τ) ∧ (∀ r', r ≤ r' → r' ≤ w → τ1.1 496 r' = 0) ∧ (∀ q j, ¬ (q = 496 ∧ r ≤ j) → τ1.1 q j = τ.1 q j) ∧ τ1.2 = τ.2 := by
  intro m
  induction m with
  | zero =>
    intro r τ hr y yy hy
    subst hy
    have c : nI w < nI r := nI_lt (by omega) (by omega)
    refine ⟨τ, ?_, fun q => ?_, fun r' y1 y2 => absurd y1 (by omega), fun _ _ _ => rfl, rfl⟩
    · rw [show yy + 0 + 1 = yy + 1 from rfl, l_X9_least, if_pos c]
    · rw [show yy + 0 + 1 = yy + 1 from rfl, q_X9_least]
      exact ⟨fun _ => q, fun y => absurd c y⟩
  | succ m ih =>
    intro r τ hr y yy hy
    subst hy
    have c : ¬ nI w < nI r := nI_nlt (by omega) (by omega)
    have eu : u_X9_least_h0_1 N x (nI w) 0 (nI r) 0 τ = zuI τ 496 r 0 := by
      unfold u_X9_least_h0_1
      rw [nI_clamp (by omega)]
    obtain ⟨τ1, j1, j2, j3, j4, j5⟩ := ih (r + 1) (zuI τ 496 r 0) (by omega) (yy + m + 1) yy rfl
    refine ⟨τ1, ?_, fun q => ?_, fun r' y1 y2 => ?_, fun q j z => ?_, j5⟩
    · rw [show yy + (m + 1) + 1 = (yy + m + 1) + 1 by omega, l_X9_least, if_neg c, eu, nI_1]
      exact j1
    · rw [show yy + (m + 1) + 1 = (yy + m + 1) + 1 by omega, q_X9_least, eu, nI_1]
      exact ⟨fun y => absurd y c, fun _ => ⟨vp_in_nI (by omega) (by decide), j2 q⟩⟩
    · by_cases e : r' = r
      · subst e
        rw [j4 _ _ (by omega), gI_h rfl rfl]
      · exact j3 r' (by omega) y2
    · rw [j4 _ _ (by omega), gI_n (by omega)]
end LE
section IS
variable {q1 q2 B W n L F U U1 r p l N : Nat} {K : aK} {H tf rg : Nat → Nat} {gv : Nat → Nat → Int32} {σ σ1 σ2 τ τ1 τ2 : zS} {x1 x2 x3 x4 x5 x6 : Int32}
theorem in12 : (f_X9_isIn x2 2 12 = 0 ∧ (x2 < 2 ∨ (¬ x2 < 2 ∧ 12 < x2))) ∨ ∃ w, 2 ≤ w ∧ w ≤ 12 ∧ x2 = nI w ∧ f_X9_isIn x2 2 12 = 1 ∧ ¬ x2 < 2 ∧ ¬ 12 < x2 := by
  by_cases c : x2 < 2
  · exact Or.inl ⟨isIn_lo c, Or.inl c⟩
  · by_cases c1 : 12 < x2
    · exact Or.inl ⟨isIn_hi c1, Or.inr ⟨c, c1⟩⟩
    · refine Or.inr ?_
      rcases pk_ix x2 (n := 13) (by decide) with y | y | ⟨j, hj, rfl⟩
      · exact absurd (Int32.lt_trans y (by decide)) c
      · exact absurd (Int32.lt_of_lt_of_le (by decide) y) c1
      · refine ⟨j, ?_, by omega, rfl, isIn_in c c1, c, c1⟩
        apply Classical.byContradiction
        intro z
        exact c (nI_lt (b := 2) (by omega) (by decide))
theorem pr_leas (h : Inv U σ τ) (hN : 200000 < N) : PR2 U (p_X8_least x1 x2 N σ) (p_X9_least x1 x2 N τ) (r_X8_least x1 x2 N σ) (r_X9_least x1 x2 N τ) σ τ := by
  have hI := h
  obtain ⟨q1, q2, B, W, n, K, L, F, H, tf, gv, p, l, rg, h⟩ := h
  have n10 : ¬ (1 : Int32) = 0 := by decide
  obtain ⟨a1, a2, a3⟩ := pr_ft (x1 := x1) h hN
  rcases in12 (x2 := x2) with ⟨e, z⟩ | ⟨w, w1, w2, rfl, e, z0, z1⟩
  · refine pr_same hI (Nat.le_refl _) ?_ ⟨a2, fun _ y => absurd e y⟩ (x := -1) (y := -1) ?_ ?_ rfl
    · rcases z with z | ⟨z0, z⟩
      · exact fun y => absurd z y
      · exact fun _ y => absurd z y
    · unfold r_X8_least
      rcases z with z | ⟨z0, z⟩
      · rw [if_pos z]
      · rw [if_neg z0, if_pos z]
    · unfold r_X9_least
      rw [e, if_pos rfl]
      by_cases y : f_X9_isTask x1 τ = 0
      · rw [if_pos y]
      · rw [if_neg y]
  · rcases a3 with ⟨e1, e2, e3⟩ | ⟨t, ht, rfl, e0, e1, e2, e3, -, e4, e5, e6, e7, e8⟩
    · refine pr_same hI (Nat.le_refl _) (fun _ _ => ⟨a1, fun y => absurd (by rw [e1]) y⟩) ⟨a2, fun y => absurd e2 y⟩ (x := -1) (y := -1) ?_ ?_ rfl
      · unfold r_X8_least u_X8_least_1
        rw [if_neg z0, if_neg z1, e1, if_pos rfl]
      · unfold r_X9_least
        rw [e2, if_pos rfl]
    · have hI' : Inv U (r_X8_followTask (nI t) N σ).2 (r_X9_goTaskPlain (nI t) N τ).2 := ⟨q1, q2, B, W, n, K, L, F, H, tf, gv, p, l, rg, e3⟩
      have fz : zfr 468 501 τ (r_X9_goTaskPlain (nI t) N τ).2 := fun q hq1 => ⟨funext fun j => e7.2 q j (sPl_z hq1), by rw [e7.1]⟩
      have u8 : u_X8_least_1 (nI t) (nI w) N σ = (r_X8_followTask (nI t) N σ).2 := rfl
      have u9 : u_X9_least_1 (nI t) (nI w) N τ = (r_X9_goTaskPlain (nI t) N τ).2 := rfl
      unfold PR2 p_X8_least p_X9_least r_X8_least r_X9_least
      rw [e1, if_neg n10, if_neg z0, if_neg z1, e, if_neg n10, u8, u9]
      rcases e8 with ⟨y1, y2, -⟩ | ⟨y1, y2, k, y3⟩
      · rw [y1, y2, if_pos rfl, if_pos rfl]
        exact ⟨fun _ _ => ⟨a1, fun y => absurd rfl y⟩, ⟨a2, fun _ _ => ⟨e2, fun y => absurd rfl y⟩⟩, rfl, hI', e6, fz⟩
      · rw [y1, y2, if_neg n10, if_neg n10]
        have hdd := y3.dps rfl
        obtain ⟨x1', x2', x3', x4', x5', x6', -⟩ := y3
        have hb1 := e3.2.2.2.2.2.1.1
        have htf := (e3.2.2.2.2.2.1.2.2.2.2 t ht).1
        have had := dp_adj hb1 (ty_begin (g := gv t) hb1 htf) x2'
        obtain ⟨A, D, RS, TP, ST, C, T, M, E, g1, g2, ⟨cc, cc1, cc2⟩, g3, -, -, -, a, b, ha, hb, ha8, hb9⟩ := e3.get
        obtain ⟨fl1, fl2, fl3, fl4⟩ := cl_fill (n := 13) (q := 393) (x := 0) (σ := (r_X8_followTask (nI t) N σ).2) (show 13 < N by omega) (by decide)
        have u82 : u_X8_least_2 (nI t) (nI w) N σ = s_J7_fill_53178 13 393 0 N (r_X8_followTask (nI t) N σ).2 := rfl
        rw [u82]
        generalize hs2 : s_J7_fill_53178 13 393 0 N (r_X8_followTask (nI t) N σ).2 = σ2 at fl2 fl3 fl4
        obtain ⟨y, hy⟩ : ∃ y, N = y + (w + 1) + 1 := ⟨N - w - 2, by omega⟩
        obtain ⟨τ2, k1, k2, k3, k4, k5⟩ := rf_lz (N := N) (x := nI t) ⟨w1, w2⟩ (w + 1) 0 (r_X9_goTaskPlain (nI t) N τ).2 (by omega) N y (by omega)
        have e45 : τ2.1 468 45 - 1 = nI k := by
          rw [k4 _ _ (by omega), x6'.2.1, nI_s1 (by omega)]
          congr 1
          omega
        rw [e45] at k1 k2
        have e8 : σ2.1 384 2 - 1 = nI k := by
          rw [fl3 _ _ (by omega), x4'.2.2.1, nI_s1 (by omega)]
          congr 1
          omega
        obtain ⟨nn1, nn2⟩ := LeS.now (σ := (r_X8_followTask (nI t) N σ).2) (σ1 := σ2) (fun q j z => fl3 _ _ (by omega)) fl4
        have hLS : LeS K (aBegin K (tf t) (gv t)) k a b w 0 σ2 τ2 := by
          refine ⟨⟨ha, hb⟩, fun i hi => (fl3 _ _ (by omega)).trans (hdd i hi).1, fun i hi => (k4 _ _ (by omega)).trans (x6'.2.2.2.2.2.2.2.2.2.1 i hi), nn2 g2, ?_, ?_, ?_, ?_, fun r r1 r2 => ⟨0, Nat.le_refl _, fl2 r (by omega), k3 r (by omega) r2⟩⟩
          · rw [nn1, g1, fl3 _ _ (by omega), g3.2.2.1 _ 4 8 (lk_g (by omega))]
            exact ha8
          · rw [nn1, g1, fl3 _ _ (by omega), g3.2.2.1 _ 5 9 (lk_g (by omega))]
            exact hb9
          · rw [k4 _ _ (by omega), g3.2.2.2.2.2.2.1 8 (by omega)]
            exact ha8
          · rw [k4 _ _ (by omega), g3.2.2.2.2.2.2.1 9 (by omega)]
            exact hb9
        obtain ⟨i1, i2, i3, i4, i5, i6, i7⟩ := pr_ev (N := N) (x := nI t) ⟨w1, w2⟩ (by omega) (by omega) (fun i hi => (hdd i hi).2) (fun i hi => (had i hi).2) k 0 σ2 τ2 (Nat.le_refl _) (by omega) hLS N y (by omega) (by omega)
        have ez : nI (dp K (aBegin K (tf t) (gv t)) k) = 0 := by rw [x3']; rfl
        rw [ez] at i2 i3 i6 i7
        have er : l_X9_least N N 0 (nI t) (nI w) 0 0 0 (r_X9_goTaskPlain (nI t) N τ).2 = l_X9_least N y 1 (nI t) (nI w) 0 (nI k) 0 τ2 := k1
        have qr : q_X9_least N N 0 (nI t) (nI w) 0 0 0 (r_X9_goTaskPlain (nI t) N τ).2 := k2 i2
        rw [e8, er]
        have scs : ∀ q, ¬ scC q → (l_X8_least N N 0 (nI t) (nI w) (nI k) 0 0 0 σ2).2.1 q = (r_X8_followTask (nI t) N σ).2.1 q ∧ (l_X8_least N N 0 (nI t) (nI w) (nI k) 0 0 0 σ2).2.2 q = (r_X8_followTask (nI t) N σ).2.2 q := fun q hq1 => by
          have : ¬ ((359 ≤ q ∧ q < 394) ∨ (444 ≤ q ∧ q < 468)) := hq1
          exact ⟨funext fun j => by rw [i4 q j (by omega), fl3 _ _ (by omega)], by rw [i5, fl4]⟩
        have hfin := e3.scr scs (e3.2.2.2.2.2.2.2.2.1.eq (i5.trans fl4)) (fun q j z => by
          have : ¬ ((q = 469 ∧ ((216 ≤ j ∧ j < 236) ∨ 11440 ≤ j)) ∨ (492 ≤ q ∧ q ≤ 497) ∨ (q = 468 ∧ 41 ≤ j ∧ j ≤ 48)) := z
          rw [i6 q j (by omega), k4 q j (by omega)])
        refine ⟨fun _ _ => ⟨a1, fun _ => ⟨fl1, i1⟩⟩, ⟨a2, fun _ _ => ⟨e2, fun _ => qr⟩⟩, i3, ⟨q1, q2, B, W, n, K, L, F, H, tf, gv, p, l, rg, hfin⟩, e6.tr (fun q hq1 => ⟨funext fun j => by rw [i4 q j (by omega), fl3 _ _ (by omega)], by rw [i5, fl4]⟩), fz.tr (fun q hq1 => ⟨funext fun j => by rw [i6 q j (by omega), k4 q j (by omega)], by rw [i7, k5]⟩)⟩
end IS
