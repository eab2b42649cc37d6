/-! calls that only look -/
section IS
variable {q1 q2 B W n L F U U1 r p l N : Nat} {K : aK} {H tf rg : Nat → Nat} {gv : Nat → Nat → Int32} {σ σ1 τ τ1 : zS} {x1 x2 x3 : Int32}
theorem pr_fault (h : Inv U σ τ) : f_X8_fault x1 σ = f_X9_fault x1 τ := by
  obtain ⟨q1, q2, B, W, n, K, L, F, H, tf, gv, p, l, rg, h⟩ := h
  unfold f_X8_fault f_X9_fault
  rw [h.2.2.2.2.2.2.2.2.2.2.1.1, h.2.2.2.2.2.2.2.2.2.2.1.2]
theorem isIn_lo {x a b : Int32} (h : x < a) : f_X9_isIn x a b = 0 := if_pos h
theorem isIn_hi {x a b : Int32} (h : b < x) : f_X9_isIn x a b = 0 := by
  unfold f_X9_isIn
  by_cases c : x < a
  · rw [if_pos c]
  · rw [if_neg c, if_pos h]
theorem isIn_in {x a b : Int32} (h : ¬ x < a) (h1 : ¬ b < x) : f_X9_isIn x a b = 1 := by
  unfold f_X9_isIn
  rw [if_neg h, if_neg h1]
theorem f5_out {o : Nat} (h : x2 < 0 ∨ 12 ≤ x2) : f_X5_fact o x2 σ = -100 := by
  have ne : ∀ k : Int32, ¬ (k < 0 ∨ 12 ≤ k) → ¬ x2 = k := fun k hk e => hk (by rw [← e]; exact h)
  unfold f_X5_fact
  rw [if_neg (ne 1 (by decide)), if_neg (ne 2 (by decide)), if_neg (ne 3 (by decide)), if_neg (ne 4 (by decide)), if_neg (ne 5 (by decide)), if_neg (ne 6 (by decide)), if_neg (ne 7 (by decide)), if_neg (ne 8 (by decide)), if_neg (ne 9 (by decide)), if_neg (ne 10 (by decide)), if_neg (ne 11 (by decide))]
theorem pr_task (h : Inv U σ τ) : p_X8_task x1 x2 σ ∧ p_X9_task x1 x2 τ ∧ f_X8_task x1 x2 σ = f_X9_task x1 x2 τ := by
  obtain ⟨q1, q2, B, W, n, K, L, F, H, tf, gv, p, l, rg, h⟩ := h
  obtain ⟨i1, i2, i3⟩ := isT (x := x1) h
  obtain ⟨A, D, RS, TP, ST, C, T, M, E, g1, g2, -, g3, -⟩ := h.get
  have hpr := h.pr
  have a4 := h.2.2.2.1
  unfold p_X8_task p_X9_task f_X8_task f_X9_task
  rcases i3 with ⟨e1, e2⟩ | ⟨t, ht, rfl, e1, e2⟩
  · rw [e1, e2, if_pos rfl, if_pos rfl]
    exact ⟨⟨i1, fun z => absurd rfl z⟩, ⟨i2, fun z => absurd rfl z⟩, rfl⟩
  · have n10 : ¬ (1 : Int32) = 0 := by decide
    rw [e1, e2, if_neg n10, if_neg n10, g1, hpr.1]
    obtain ⟨a1, a2, a3, -, -, a6, a7, a8, -, -, a11, -, -, a14, -⟩ := g3
    have n4 := a11.2.2.2.1
    have ht4 : t < 4 := by omega
    have hB := a6.1
    obtain ⟨d1, d2, d3, d4⟩ := a11.2.2.2.2 t ht
    have tk := tk_eq a2.2.2 ht4
    have ef : f_X9_functionOf (nI t) τ = nI (tf t) := by
      unfold f_X9_functionOf
      rw [a4, show (4 : Int32) * nI B + nI t = nI (4 * B + t) by rw [(show (4 : Int32) = nI 4 from rfl), pk_mul, nI_add], nI_clamp (by omega), d3]
    have pf : p_X9_functionOf (nI t) τ := by
      unfold p_X9_functionOf
      rw [a4, show (4 : Int32) * nI B + nI t = nI (4 * B + t) by rw [(show (4 : Int32) = nI 4 from rfl), pk_mul, nI_add]]
      exact vp_in_nI (by omega) (by decide)
    have ea : f_X8_at 4 (q1 + 3) (nI t) σ = nI (tf t) := by rw [at_i ht4 (by decide), d2]
    have w1 := (a8.2.1 t ht4).1
    have s1 : σ.1 (rg p + 5 + 5 * t) 1 = nI (ST t) := by
      rcases a14 t ht4 with y | y
      · exact y
      · exact absurd y.1 (by decide)
    rw [ea, ef, tk]
    by_cases c0 : x2 = 0
    · rw [if_pos c0, if_pos c0]
      exact ⟨⟨i1, fun _ => ⟨fun z => absurd c0 z, fun _ => ⟨by rw [← hpr.1]; exact hpr.2.1, at_p (by decide)⟩⟩⟩, ⟨i2, fun _ => ⟨fun z => absurd c0 z, fun _ => pf⟩⟩, rfl⟩
    · rw [if_neg c0, if_neg c0]
      have pc := tk_p a1.1 a2.2.2 ht4
      have out : (x2 < 0 ∨ 12 ≤ x2) → f_X9_isIn x2 1 11 = 0 := fun z => by
        rcases z with z | z
        · exact isIn_lo (Int32.lt_trans z (by decide))
        · exact isIn_hi (Int32.lt_of_lt_of_le (by decide) z)
      have key : f_X9_isIn x2 1 11 = 0 ∧ (x2 < 0 ∨ 12 ≤ x2) ∨ ∃ j, 1 ≤ j ∧ j < 12 ∧ x2 = nI j ∧ f_X9_isIn x2 1 11 = 1 := by
        rcases pk_ix x2 (n := 12) (by decide) with z | z | ⟨j, hj, rfl⟩
        · exact Or.inl ⟨out (Or.inl z), Or.inl z⟩
        · exact Or.inl ⟨out (Or.inr z), Or.inr z⟩
        · have j0 : 1 ≤ j := by
            rcases Nat.eq_zero_or_pos j with e | e
            · exact absurd (by rw [e]; rfl) c0
            · exact e
          exact Or.inr ⟨j, j0, hj, rfl, isIn_in (nI_nlt (b := 1) j0 (by omega)) (nI_nlt (a := 11) (by omega) (by decide))⟩
      rcases key with ⟨e, z⟩ | ⟨j, j1, j2, rfl, e⟩
      · rw [e, if_pos rfl, f5_out z]
        exact ⟨⟨i1, fun _ => ⟨fun _ => ⟨g2, pc⟩, fun z => absurd z c0⟩⟩, ⟨i2, fun _ => ⟨fun _ z => absurd rfl z, fun z => absurd z c0⟩⟩, rfl⟩
      · rw [e, if_neg n10, nI_s1 j1, at_n, nI_clamp (by omega), a7 _ (by omega)]
        refine ⟨⟨i1, fun _ => ⟨fun _ => ⟨g2, pc⟩, fun z => absurd z c0⟩⟩, ⟨i2, fun _ => ⟨fun _ _ => vp_in_nI (by omega) (by decide), fun z => absurd z c0⟩⟩, ?_⟩
        unfold f_X5_fact
        rcases (show j = 1 ∨ j = 2 ∨ j = 3 ∨ j = 4 ∨ j = 5 ∨ j = 6 ∨ j = 7 ∨ j = 8 ∨ j = 9 ∨ j = 10 ∨ j = 11 by omega) with rfl | rfl | rfl | rfl | rfl | rfl | rfl | rfl | rfl | rfl | rfl
        · rw [if_pos (by decide), s1, ← w1]
          rfl
        · rw [if_neg (by decide), if_pos (by decide)]
          exact a3 _ _ _ (by have := lk_d (sl := 1) (al := 0) (r := rg p) ht4; rw [show rg p + 5 + 5 * t + 1 = rg p + 6 + 5 * t by omega, show 136 + 20 * t + (2 - 1) = 137 + 20 * t by omega]; exact this)
        · rw [if_neg (by decide), if_neg (by decide), if_pos (by decide)]
          exact a3 _ _ _ (by have := lk_r (sl := 1) (al := 0) (r := rg p) ht4; rw [show 136 + 20 * t + (3 - 1) = 138 + 20 * t by omega]; exact this)
        · rw [if_neg (by decide), if_neg (by decide), if_neg (by decide), if_pos (by decide)]
          exact a3 _ _ _ (by have := lk_t (sl := 1) (al := 0) (r := rg p) (k := 4) ht4 (by omega) (by omega); rw [show 136 + 20 * t + (4 - 1) = 135 + 20 * t + 4 by omega]; exact this)
        · rw [if_neg (by decide), if_neg (by decide), if_neg (by decide), if_neg (by decide), if_pos (by decide)]
          exact a3 _ _ _ (by have := lk_t (sl := 1) (al := 0) (r := rg p) (k := 5) ht4 (by omega) (by omega); rw [show 136 + 20 * t + (5 - 1) = 135 + 20 * t + 5 by omega]; exact this)
        · rw [if_neg (by decide), if_neg (by decide), if_neg (by decide), if_neg (by decide), if_neg (by decide), if_pos (by decide)]
          exact a3 _ _ _ (by have := lk_t (sl := 1) (al := 0) (r := rg p) (k := 6) ht4 (by omega) (by omega); rw [show 136 + 20 * t + (6 - 1) = 135 + 20 * t + 6 by omega]; exact this)
        · rw [if_neg (by decide), if_neg (by decide), if_neg (by decide), if_neg (by decide), if_neg (by decide), if_neg (by decide), if_pos (by decide)]
          exact a3 _ _ _ (by have := lk_t (sl := 1) (al := 0) (r := rg p) (k := 7) ht4 (by omega) (by omega); rw [show 136 + 20 * t + (7 - 1) = 135 + 20 * t + 7 by omega]; exact this)
        · rw [if_neg (by decide), if_neg (by decide), if_neg (by decide), if_neg (by decide), if_neg (by decide), if_neg (by decide), if_neg (by decide), if_pos (by decide)]
          exact a3 _ _ _ (by have := lk_t (sl := 1) (al := 0) (r := rg p) (k := 8) ht4 (by omega) (by omega); rw [show 136 + 20 * t + (8 - 1) = 135 + 20 * t + 8 by omega]; exact this)
        · rw [if_neg (by decide), if_neg (by decide), if_neg (by decide), if_neg (by decide), if_neg (by decide), if_neg (by decide), if_neg (by decide), if_neg (by decide), if_pos (by decide)]
          exact a3 _ _ _ (by have := lk_t (sl := 1) (al := 0) (r := rg p) (k := 9) ht4 (by omega) (by omega); rw [show 136 + 20 * t + (9 - 1) = 135 + 20 * t + 9 by omega]; exact this)
        · rw [if_neg (by decide), if_neg (by decide), if_neg (by decide), if_neg (by decide), if_neg (by decide), if_neg (by decide), if_neg (by decide), if_neg (by decide), if_neg (by decide), if_pos (by decide)]
          exact a3 _ _ _ (by have := lk_t (sl := 1) (al := 0) (r := rg p) (k := 10) ht4 (by omega) (by omega); rw [show 136 + 20 * t + (10 - 1) = 135 + 20 * t + 10 by omega]; exact this)
        · rw [if_neg (by decide), if_neg (by decide), if_neg (by decide), if_neg (by decide), if_neg (by decide), if_neg (by decide), if_neg (by decide), if_neg (by decide), if_neg (by decide), if_neg (by decide), if_pos (by decide)]
          exact a3 _ _ _ (by have := lk_t (sl := 1) (al := 0) (r := rg p) (k := 11) ht4 (by omega) (by omega); rw [show 136 + 20 * t + (11 - 1) = 135 + 20 * t + 11 by omega]; exact this)
theorem nI2 {m : Nat} (h : m ≤ 3) (k : Nat) (hk : k ≤ 3) : nI m = nI k ↔ m = k := nI_eq (by omega) (by omega)
theorem pr_result (h : Inv U σ τ) : p_X8_result x1 σ ∧ p_X9_result x1 τ ∧ f_X8_result x1 σ = f_X9_result x1 τ := by
  obtain ⟨q1, q2, B, W, n, K, L, F, H, tf, gv, p, l, rg, h⟩ := h
  obtain ⟨i1, i2, i3⟩ := isT (x := x1) h
  obtain ⟨A, D, RS, TP, ST, C, T, M, E, g1, g2, -, g3, -⟩ := h.get
  unfold p_X8_result p_X9_result f_X8_result f_X9_result
  rcases i3 with ⟨e1, e2⟩ | ⟨t, ht, rfl, e1, e2⟩
  · rw [e1, e2, if_pos rfl, if_pos rfl]
    exact ⟨⟨i1, fun z => absurd rfl z⟩, ⟨i2, fun z => absurd rfl z⟩, rfl⟩
  · have n10 : ¬ (1 : Int32) = 0 := by decide
    obtain ⟨a1, a2, a3, -, -, a6, a7, a8, -, -, a11, -, -, a14, -, -, -, a18, -⟩ := g3
    have n4 := a11.2.2.2.1
    have ht4 : t < 4 := by omega
    have tk := tk_eq a2.2.2 ht4
    obtain ⟨w1, w2, -⟩ := a8.2.1 t ht4
    have s1 : σ.1 (rg p + 5 + 5 * t) 1 = nI (ST t) := by
      rcases a14 t ht4 with y | y
      · exact y
      · exact absurd y.1 (by decide)
    obtain ⟨-, -, -, -, e5, e6⟩ := rf_frm a7 ht4
    rw [e1, e2, if_neg n10, if_neg n10, g1, tk, s1, e5, w1, at_11, nI_clamp (by omega), a7 _ (by omega)]
    refine ⟨⟨i1, fun _ => ⟨g2, tk_p a1.1 a2.2.2 ht4⟩⟩, ⟨i2, fun _ => ⟨e6, fun _ => vp_in_nI (by omega) (by decide)⟩⟩, ?_⟩
    by_cases c : nI (ST t) = 2
    · rw [if_pos c, if_pos c, show rg p + 5 + 5 * t + 1 = rg p + 6 + 5 * t by omega, a18 rfl rfl t ht4 ((nI2 w2 2 (by omega)).mp c)]
      congr 1
      omega
    · rw [if_neg c, if_neg c]
theorem isW (h : IV q1 q2 B W n K L F H tf gv p l rg U σ τ) : p_X9_isWindow x1 τ ∧ (2 ≤ W ∧ W ≤ 12) ∧ σ.1 (rg p) 0 = nI W ∧ ((f_X9_isWindow x1 τ = 0 ∧ (x1 < 0 ∨ (¬ x1 < 0 ∧ nI W ≤ x1))) ∨ ∃ w, w < W ∧ x1 = nI w ∧ f_X9_isWindow x1 τ = 1) := by
  obtain ⟨A, D, RS, TP, ST, C, T, M, E, g1, g2, -, g3, -⟩ := h.get
  obtain ⟨a1, a2, a3, -, -, a6, a7, a8, -⟩ := g3
  obtain ⟨e1, e2⟩ := f9_win a6.1 a6.2.1 a6.2.2.1
  have hW := a8.1
  refine ⟨e2, hW, a2.1, ?_⟩
  unfold f_X9_isWindow
  rw [e1]
  exact inN (by omega)
theorem pr_window (h : Inv U σ τ) : p_X8_window x1 x2 σ ∧ p_X9_window x1 x2 τ ∧ f_X8_window x1 x2 σ = f_X9_window x1 x2 τ := by
  obtain ⟨q1, q2, B, W, n, K, L, F, H, tf, gv, p, l, rg, h⟩ := h
  obtain ⟨i1, hW, i2, i3⟩ := isW (x1 := x1) h
  obtain ⟨A, D, RS, TP, ST, C, T, M, E, g1, g2, -, g3, -⟩ := h.get
  have n10 : ¬ (1 : Int32) = 0 := by decide
  unfold p_X8_window p_X9_window f_X8_window f_X9_window
  rw [g1, i2]
  rcases i3 with ⟨e, z | ⟨z0, z⟩⟩ | ⟨w, hw, rfl, e⟩
  · rw [e, if_pos z, if_pos rfl]
    exact ⟨⟨g2, fun y => absurd z y⟩, ⟨i1, fun y => absurd rfl y⟩, rfl⟩
  · have z' := Int32.not_lt.mpr z
    rw [e, if_neg z0, if_neg z', if_pos rfl]
    exact ⟨⟨g2, fun _ y => absurd y z'⟩, ⟨i1, fun y => absurd rfl y⟩, rfl⟩
  · obtain ⟨a1, a2, a3, -, -, a6, a7, a8, -⟩ := g3
    have z0 : ¬ nI w < 0 := nI_pos (by omega)
    have z1 : nI w < nI W := nI_lt hw (by omega)
    have m12 : (12 : Int32) + nI w = nI (12 + w) := nI_add 12 w
    have m24 : (24 : Int32) + nI w = nI (24 + w) := nI_add 24 w
    rw [e, if_neg z0, if_pos z1, if_neg n10, at_i (by omega) (by decide), at_i (by omega) (by decide), m12, m24, nI_clamp (by omega), nI_clamp (by omega), a7 _ (by omega), a7 _ (by omega), a3 _ _ _ (lk_o (by omega)), a3 _ _ _ (lk_f (by omega))]
    refine ⟨⟨g2, fun _ _ => ⟨fun _ _ => at_p (by decide), fun _ => at_p (by decide)⟩⟩, ⟨i1, fun _ _ => ⟨fun _ => vp_in_nI (by omega) (by decide), fun _ => vp_in_nI (by omega) (by decide)⟩⟩, ?_⟩
    by_cases c0 : x2 = 0
    · rw [if_pos c0, if_pos c0, c0, show f_X9_isIn 0 0 1 = 1 from rfl, if_neg n10]
    · rw [if_neg c0, if_neg c0]
      by_cases c1 : x2 = 1
      · rw [if_pos c1, c1, show f_X9_isIn 1 0 1 = 1 from rfl, if_neg n10]
      · rw [if_neg c1]
        have : f_X9_isIn x2 0 1 = 0 := by
          rcases pk_ix x2 (n := 2) (by decide) with y | y | ⟨j, hj, rfl⟩
          · exact isIn_lo y
          · exact isIn_hi (Int32.lt_of_lt_of_le (by decide) y)
          · rcases (show j = 0 ∨ j = 1 by omega) with rfl | rfl
            · exact absurd rfl c0
            · exact absurd rfl c1
        rw [this, if_pos rfl]
/-- a value of a FRAME -/
theorem pr_par (h : IV q1 q2 B W n K L F H tf gv p l rg U σ τ) {t : Nat} (ht : t < 4) {A : Nat → Int32} {D RS TP ST : Nat → Nat} {C : Nat → aC} {T M : Nat} (g3 : RX 0 1 0 (rg p) q1 B W n K L F H tf gv 0 0 0 T M σ τ A D RS TP ST C) {f : Nat} (hf : 1 ≤ f ∧ f ≤ D t) : p_X0_parameter (rg p + 5 + 5 * t + 1) (nI f) x3 σ ∧ f_X0_parameter (rg p + 5 + 5 * t + 1) (nI f) x3 σ = (if f_X9_isIn x3 0 3 = 0 then 0 else τ.1 469 (f_X9_atFrame (nI t) (nI f) (2 + x3)).toNatClampNeg) ∧ (¬ f_X9_isIn x3 0 3 = 0 → vp_in (f_X9_atFrame (nI t) (nI f) (2 + x3)) 14241) := by
  obtain ⟨a1, a2, a3, -, -, a6, a7, a8, -, -, a11, -, -, a14, a15, -⟩ := g3
  obtain ⟨w1, w2, w3, w4, w5, w6, w7, w8, -⟩ := a8.2.1 t ht
  obtain ⟨z1, z2, z3, z4⟩ := a15 t ht (w8.mpr (by omega))
  have cc : CC σ (rg p + 6 + 5 * t) (C t) := by
    rcases z4 with y | y
    · exact y.2.1
    · exact absurd y.1 (by decide)
  have d0 : σ.1 (rg p + 5 + 5 * t + 1) 0 = nI (D t) := by
    rw [show rg p + 5 + 5 * t + 1 = rg p + 6 + 5 * t by omega, a3 _ _ _ (lk_d ht), w3]
  have c1 : ¬ nI f < 1 := nI_nlt (b := 1) hf.1 (by omega)
  have c2 : ¬ nI (D t) < nI f := nI_nlt (by omega) (by omega)
  unfold p_X0_parameter f_X0_parameter
  rw [d0, if_neg c1, if_neg c2]
  refine ⟨fun _ _ _ _ => at_p (by decide), ?_⟩
  rcases pk_ix x3 (n := 4) (by decide) with y | y | ⟨i, hi, rfl⟩
  · rw [if_pos y, isIn_lo y, if_pos rfl]
    exact ⟨rfl, fun z => absurd rfl z⟩
  · have y3 : (3 : Int32) < x3 := Int32.lt_of_lt_of_le (by decide) y
    have y4 : ¬ x3 < 4 := Int32.not_lt.mpr y
    rw [isIn_hi y3, if_pos rfl, if_neg y4]
    refine ⟨?_, fun z => absurd rfl z⟩
    by_cases c : x3 < 0
    · rw [if_pos c]
    · rw [if_neg c]
  · have e : f_X9_isIn (nI i) 0 3 = 1 := isIn_in (nI_pos (by omega)) (nI_nlt (a := 3) (by omega) (by decide))
    have y4 : nI i < 4 := nI_lt (b := 4) hi (by decide)
    rw [e, if_neg (nI_pos (by omega)), if_pos y4, if_neg (by decide), fr_v hf.1, nI_clamp (by omega), nI_s1 hf.1, show nI (f - 1) * 4 + nI i = nI ((f - 1) * 4 + i) by rw [(show (4 : Int32) = nI 4 from rfl), pk_mul, nI_add], at_i (by omega) (by decide), show rg p + 5 + 5 * t + 1 + 1 = rg p + 6 + 5 * t + 1 by omega, cc.2.2.2.2.1 f i hf.1 (by omega) hi, z3.2.2.2 f i hf.1 (by omega) hi]
    exact ⟨rfl, fun _ => vp_in_nI (by omega) (by decide)⟩
theorem pr_register (h : Inv U σ τ) : p_X8_register x1 x2 σ ∧ p_X9_register x1 x2 τ ∧ f_X8_register x1 x2 σ = f_X9_register x1 x2 τ := by
  obtain ⟨q1, q2, B, W, n, K, L, F, H, tf, gv, p, l, rg, h⟩ := h
  obtain ⟨i1, hW, i2, i3⟩ := isW (x1 := x1) h
  obtain ⟨A, D, RS, TP, ST, C, T, M, E, g1, g2, -, g3, -⟩ := h.get
  have n10 : ¬ (1 : Int32) = 0 := by decide
  unfold p_X8_register p_X9_register f_X8_register f_X9_register
  rw [g1, i2]
  rcases i3 with ⟨e, z | ⟨z0, z⟩⟩ | ⟨w, hw, rfl, e⟩
  · rw [e, if_pos z, if_pos rfl]
    exact ⟨⟨g2, fun y => absurd z y⟩, ⟨i1, fun y => absurd rfl y⟩, rfl⟩
  · rw [e, if_neg z0, if_pos z, if_pos rfl]
    exact ⟨⟨g2, fun _ y => absurd z y⟩, ⟨i1, fun y => absurd rfl y⟩, rfl⟩
  · have g3' := g3
    obtain ⟨a1, a2, a3, -, -, a6, a7, a8, -⟩ := g3
    have z0 : ¬ nI w < 0 := nI_pos (by omega)
    have z1 : ¬ nI W ≤ nI w := nI_ge hw (by omega)
    have m12 : (12 : Int32) + nI w = nI (12 + w) := nI_add 12 w
    have m24 : (24 : Int32) + nI w = nI (24 + w) := nI_add 24 w
    obtain ⟨f1, f2⟩ := rf_free (w := w) (τ := τ) (by omega)
    rw [e, f1, if_neg z0, if_neg z1, if_neg n10, at_i (by omega) (by decide), at_i (by omega) (by decide), m12, m24, nI_clamp (by omega), nI_clamp (by omega), a7 _ (by omega), a7 _ (by omega), a3 _ _ _ (lk_o (by omega)), a3 _ _ _ (lk_f (by omega))]
    rcases a8.2.2.1.1 w hw with y | ⟨t, f, y1, y2, y3, y4⟩
    · rw [if_pos y, if_pos y, if_neg n10]
      exact ⟨⟨g2, fun _ _ => ⟨at_p (by decide), fun z => absurd y z⟩⟩, ⟨i1, fun _ => ⟨f2, fun z => absurd z n10⟩⟩, rfl⟩
    · have ny : ¬ A (12 + w) = -1 := by rw [y3]; exact m1_ne y1
      obtain ⟨o1, o2⟩ := a8.2.2.1.2 t f y1 y2
      rw [← y4] at o2
      obtain ⟨w1, w2, w3, w4, w5, w6, w7, w8, -⟩ := a8.2.1 t y1
      obtain ⟨p1, p2, p3⟩ := pr_par (x3 := x2) h y1 g3' (f := D t - f) (by omega)
      rw [if_neg ny, if_neg ny, if_pos rfl, y3, o2, tk_eq a2.2.2 y1, p2]
      exact ⟨⟨g2, fun _ _ => ⟨at_p (by decide), fun _ => ⟨at_p (by decide), tk_p a1.1 a2.2.2 y1, at_p (by decide), p1⟩⟩⟩, ⟨i1, fun _ => ⟨f2, fun _ z => ⟨vp_in_nI (by omega) (by decide), vp_in_nI (by omega) (by decide), p3 z⟩⟩⟩, rfl⟩
/-- a FRAME of a task -/
theorem isF {A : Nat → Int32} {D RS TP ST : Nat → Nat} {C : Nat → aC} {T M t : Nat} (g3 : RX 0 1 0 r q1 B W n K L F H tf gv 0 0 0 T M σ τ A D RS TP ST C) (ht : t < 4) (e2 : f_X9_isTask (nI t) τ = 1) (i2 : p_X9_isTask (nI t) τ) : p_X9_isFrame (nI t) x2 τ ∧ D t ≤ 60 ∧ σ.1 (r + 5 + 5 * t + 1) 0 = nI (D t) ∧ ((f_X9_isFrame (nI t) x2 τ = 0 ∧ (x2 < 1 ∨ (¬ x2 < 1 ∧ nI (D t) < x2))) ∨ ∃ f, 1 ≤ f ∧ f ≤ D t ∧ x2 = nI f ∧ f_X9_isFrame (nI t) x2 τ = 1) := by
  obtain ⟨a1, a2, a3, -, -, a6, a7, a8, -⟩ := g3
  obtain ⟨w1, w2, w3, w4, -⟩ := a8.2.1 t ht
  obtain ⟨e3, e4, -⟩ := rf_frm a7 ht
  have d0 : σ.1 (r + 5 + 5 * t + 1) 0 = nI (D t) := by
    rw [show r + 5 + 5 * t + 1 = r + 6 + 5 * t by omega, a3 _ _ _ (lk_d ht), w3]
  refine ⟨⟨i2, fun _ => e4⟩, w4, d0, ?_⟩
  unfold f_X9_isFrame
  rw [e2, if_neg (by decide), e3, w3]
  by_cases c : x2 < 1
  · exact Or.inl ⟨by rw [isIn_lo c, if_pos rfl], Or.inl c⟩
  · by_cases c1 : nI (D t) < x2
    · exact Or.inl ⟨by rw [isIn_hi c1, if_pos rfl], Or.inr ⟨c, c1⟩⟩
    · obtain ⟨f, f1, f2, f3⟩ := in_lo c c1 (by omega)
      exact Or.inr ⟨f, f1, f2, f3, by rw [isIn_in c c1, if_neg (by decide)]⟩
theorem pr_value (h : Inv U σ τ) : p_X8_value x1 x2 x3 σ ∧ p_X9_value x1 x2 x3 τ ∧ f_X8_value x1 x2 x3 σ = f_X9_value x1 x2 x3 τ := by
  obtain ⟨q1, q2, B, W, n, K, L, F, H, tf, gv, p, l, rg, h⟩ := h
  obtain ⟨i1, i2, i3⟩ := isT (x := x1) h
  obtain ⟨A, D, RS, TP, ST, C, T, M, E, g1, g2, -, g3, -⟩ := h.get
  have n10 : ¬ (1 : Int32) = 0 := by decide
  unfold p_X8_value p_X9_value f_X8_value f_X9_value
  rcases i3 with ⟨e1, e2⟩ | ⟨t, ht, rfl, e1, e2⟩
  · have z : f_X9_isFrame x1 x2 τ = 0 := by
      unfold f_X9_isFrame
      rw [e2, if_pos rfl]
    rw [e1, if_pos rfl, z, if_pos rfl]
    exact ⟨⟨i1, fun z => absurd rfl z⟩, ⟨⟨i2, fun z => absurd e2 z⟩, fun z => absurd rfl z⟩, rfl⟩
  · have n4 := g3.2.2.2.2.2.2.2.2.2.2.1.2.2.2.1
    have ht4 : t < 4 := by omega
    obtain ⟨f1, f2, f3, f4⟩ := isF (x2 := x2) g3 ht4 e2 i2
    have tk := tk_eq g3.2.1.2.2 ht4
    have pc := tk_p g3.1.1 g3.2.1.2.2 ht4
    rw [e1, if_neg n10, g1, tk]
    rcases f4 with ⟨e, z⟩ | ⟨f, y1, y2, rfl, e⟩
    · rw [e, if_pos rfl]
      unfold p_X0_parameter f_X0_parameter
      rw [f3]
      rcases z with z | ⟨z0, z⟩
      · rw [if_pos z]
        exact ⟨⟨i1, fun _ => ⟨g2, pc, fun y => absurd z y⟩⟩, ⟨f1, fun y => absurd rfl y⟩, rfl⟩
      · rw [if_neg z0, if_pos z]
        exact ⟨⟨i1, fun _ => ⟨g2, pc, fun _ y => absurd z y⟩⟩, ⟨f1, fun y => absurd rfl y⟩, rfl⟩
    · obtain ⟨p1, p2, p3⟩ := pr_par (x3 := x3) h ht4 g3 (f := f) ⟨y1, y2⟩
      rw [e, if_neg n10, p2]
      exact ⟨⟨i1, fun _ => ⟨g2, pc, p1⟩⟩, ⟨f1, fun _ => p3⟩, rfl⟩
theorem m1_nw {w : Nat} (h : w < 1000) : ¬ nI w = -1 := fun z => by
  have := congrArg (· < (0 : Int32)) z
  exact nI_pos (show w < 2 ^ 31 by omega) (by rw [z]; decide)
theorem pr_where0 {A : Nat → Int32} {D RS TP ST : Nat → Nat} {C : Nat → aC} {T M t f : Nat} (g3 : RX 0 1 0 r q1 B W n K L F H tf gv 0 0 0 T M σ τ A D RS TP ST C) (ht : t < 4) (hf : 1 ≤ f ∧ f ≤ D t) : (nI f ≤ f_X9_frames (nI t) τ - f_X9_resident (nI t) τ ∧ f_X4_windowOf r (nI t) (nI f) σ = -1 ∧ RS t ≤ D t - f) ∨ (¬ nI f ≤ f_X9_frames (nI t) τ - f_X9_resident (nI t) τ ∧ D t - f < RS t ∧ p_X9_windowOf (nI t) (nI f) τ ∧ f_X4_windowOf r (nI t) (nI f) σ = nI (wat W (TP t) (D t - f)) ∧ f_X9_windowOf (nI t) (nI f) τ = nI (wat W (TP t) (D t - f)) ∧ wat W (TP t) (D t - f) < W) := by
  obtain ⟨a1, a2, a3, -, a5, a6, a7, a8, -⟩ := g3
  obtain ⟨w1, w2, w3, w4, w5, w6, w7, w8, w9, -⟩ := a8.2.1 t ht
  obtain ⟨e3, e4, e5, e6, -⟩ := rf_frm a7 ht
  have hW := a8.1
  rw [e3, e5, w3, w5, pk_sub w6]
  by_cases c : RS t ≤ D t - f
  · refine Or.inl ⟨nI_le (by omega) (by omega), ?_, c⟩
    unfold f_X4_windowOf
    rw [tk_eq a2.2.2 ht, show r + 5 + 5 * t + 1 = r + 6 + 5 * t by omega, a3 _ _ _ (lk_d ht), w3, pk_sub hf.2, if_neg (nI_pos (by omega)), a3 _ _ _ (lk_r ht), w5, if_neg (nI_nlt (by omega) (by omega))]
  · have hR : 1 ≤ RS t := by omega
    obtain ⟨v1, v2⟩ := w9 hR
    have k1 := cl_winOf (f := D t - f) a2 a3 ht hW v2 (show D t - f < RS t by omega) (by omega) w7 w4 (a5 t ht hR) w3 w5
    obtain ⟨k2, k3⟩ := rf_winOf (f := D t - f) a7 a6 hW ht v2 (by omega) (by omega) w4 v1 w3
    rw [show D t - (D t - f) = f by omega] at k1 k2 k3
    exact Or.inr ⟨nI_ge (by omega) (by omega), by omega, k3, k1, k2, wat_lt v2 (by omega)⟩
theorem pr_where (h : Inv U σ τ) : p_X8_where x1 x2 σ ∧ p_X9_where x1 x2 τ ∧ f_X8_where x1 x2 σ = f_X9_where x1 x2 τ := by
  obtain ⟨q1, q2, B, W, n, K, L, F, H, tf, gv, p, l, rg, h⟩ := h
  obtain ⟨i1, i2, i3⟩ := isT (x := x1) h
  obtain ⟨A, D, RS, TP, ST, C, T, M, E, g1, g2, -, g3, -⟩ := h.get
  have n10 : ¬ (1 : Int32) = 0 := by decide
  unfold p_X8_where p_X9_where f_X8_where f_X9_where
  rcases i3 with ⟨e1, e2⟩ | ⟨t, ht, rfl, e1, e2⟩
  · have z : f_X9_isFrame x1 x2 τ = 0 := by
      unfold f_X9_isFrame
      rw [e2, if_pos rfl]
    rw [e1, if_pos rfl, z, if_pos rfl]
    exact ⟨⟨g2, i1, fun z => absurd rfl z⟩, ⟨⟨i2, fun z => absurd e2 z⟩, fun z => absurd rfl z⟩, rfl⟩
  · have n4 := g3.2.2.2.2.2.2.2.2.2.2.1.2.2.2.1
    have ht4 : t < 4 := by omega
    obtain ⟨f1, f2, f3, f4⟩ := isF (x2 := x2) g3 ht4 e2 i2
    have tk := tk_eq g3.2.1.2.2 ht4
    have pc := tk_p g3.1.1 g3.2.1.2.2 ht4
    obtain ⟨-, e4, -, e6, -⟩ := rf_frm g3.2.2.2.2.2.2.1 ht4
    rw [e1, if_neg n10, g1, tk, f3]
    rcases f4 with ⟨e, z⟩ | ⟨f, y1, y2, rfl, e⟩
    · rw [e, if_pos rfl]
      rcases z with z | ⟨z0, z⟩
      · rw [if_pos z]
        exact ⟨⟨g2, i1, fun _ y => absurd z y⟩, ⟨f1, fun y => absurd rfl y⟩, rfl⟩
      · have z' : ¬ x2 ≤ nI (D t) := Int32.not_le.mpr z
        rw [if_neg z0, if_neg z']
        exact ⟨⟨g2, i1, fun _ _ => ⟨pc, fun y => absurd y z'⟩⟩, ⟨f1, fun y => absurd rfl y⟩, rfl⟩
    · have z0 : ¬ nI f < 1 := nI_nlt (b := 1) y1 (by omega)
      have z1 : nI f ≤ nI (D t) := nI_le y2 (by omega)
      have hW := g3.2.2.2.2.2.2.2.1.1
      rw [e, if_neg n10, if_neg z0, if_pos z1]
      rcases pr_where0 g3 ht4 ⟨y1, y2⟩ with ⟨k1, k2, -⟩ | ⟨k1, -, k3, k4, k5, k6⟩
      · rw [if_pos k1, k2, if_pos rfl]
        exact ⟨⟨g2, i1, fun _ _ => ⟨pc, fun _ => pc⟩⟩, ⟨f1, fun _ => ⟨e4, e6, fun y => absurd k1 y⟩⟩, rfl⟩
      · rw [if_neg k1, k4, k5, if_neg (m1_nw (by omega))]
        exact ⟨⟨g2, i1, fun _ _ => ⟨pc, fun _ => pc⟩⟩, ⟨f1, fun _ => ⟨e4, e6, fun _ => k3⟩⟩, rfl⟩
end IS
