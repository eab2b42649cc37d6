/-! how many: the guesses of the handlers (printed by wip/whole/p80.py) -/
def sAsk (r t : Nat) (q j : Nat) : Prop := q = r + 5 + 5 * t ∧ (j = 6 ∨ j = 7)
theorem g_cnt : ∀ c, c < 4 → (nI c + 1 = nI (c + 1)) ∧ ((if 3 < (nI c + 1) then 3 else (nI c + 1)) = nI (if 3 < c + 1 then 3 else c + 1)) ∧ (f_X9_less 3 (nI c + 1) = nI (if 3 < c + 1 then 3 else c + 1)) ∧ (4 - nI c = nI (4 - c)) ∧ ((if (nI c - 1) < 0 then 0 else (nI c - 1)) = nI (c - 1)) ∧ (f_X9_more 0 (nI c - 1) = nI (c - 1)) := by decide +kernel
theorem g_d1 : ∀ g, g < 17 → 1 ≤ g → ∀ k, k < 17 → 1 ≤ k → (¬ nI g ≤ 0) := by decide +kernel
theorem g_d2 : ∀ g, g < 17 → 1 ≤ g → ∀ k, k < 17 → 1 ≤ k → (¬ 0 ≤ -(nI g)) := by decide +kernel
theorem g_d3 : ∀ g, g < 17 → 1 ≤ g → ∀ k, k < 17 → 1 ≤ k → ((if nI k < (nI g * 2) then nI k else (nI g * 2)) = nI (if k < 2 * g then k else 2 * g)) := by decide +kernel
theorem g_d4 : ∀ g, g < 17 → 1 ≤ g → ∀ k, k < 17 → 1 ≤ k → (f_X9_less (2 * nI g) (nI k) = nI (if k < 2 * g then k else 2 * g)) := by decide +kernel
theorem g_d5 : ∀ g, g < 17 → 1 ≤ g → ∀ k, k < 17 → 1 ≤ k → ((if ((-(nI g)) * 2) < (-(nI k)) then (-(nI k)) else ((-(nI g)) * 2)) = -(nI (if k < 2 * g then k else 2 * g))) := by decide +kernel
theorem g_d6 : ∀ g, g < 17 → 1 ≤ g → ∀ k, k < 17 → 1 ≤ k → (f_X9_more (2 * (-(nI g))) (-(nI k)) = -(nI (if k < 2 * g then k else 2 * g))) := by decide +kernel
theorem g_dbl (g : Nat) (h1 : g < 17) (h2 : 1 ≤ g) (k : Nat) (h3 : k < 17) (h4 : 1 ≤ k) : (¬ nI g ≤ 0) ∧ (¬ 0 ≤ -(nI g)) ∧ ((if nI k < (nI g * 2) then nI k else (nI g * 2)) = nI (if k < 2 * g then k else 2 * g)) ∧ (f_X9_less (2 * nI g) (nI k) = nI (if k < 2 * g then k else 2 * g)) ∧ ((if ((-(nI g)) * 2) < (-(nI k)) then (-(nI k)) else ((-(nI g)) * 2)) = -(nI (if k < 2 * g then k else 2 * g))) ∧ (f_X9_more (2 * (-(nI g))) (-(nI k)) = -(nI (if k < 2 * g then k else 2 * g))) := ⟨g_d1 g h1 h2 k h3 h4, g_d2 g h1 h2 k h3 h4, g_d3 g h1 h2 k h3 h4, g_d4 g h1 h2 k h3 h4, g_d5 g h1 h2 k h3 h4, g_d6 g h1 h2 k h3 h4⟩
theorem g_sgn : ∀ g, g < 17 → (-(nI g) ≤ 0) ∧ (0 ≤ nI g) := by decide +kernel
theorem ask_over {sl al r t W n : Nat} {σ τ : zS} {A : Nat → Int32} {D RS TP ST : Nat → Nat} (hs : CSt σ r W n) (hC : CRel sl al σ r A) (hM : MRel τ A) (h : WF A W D RS TP ST) (ht : t < 4) : ∃ (k : Nat) (A1 : Nat → Int32), (1 ≤ k ∧ k ≤ 16) ∧ (r_X5_guessToSpill (r + 5 + 5 * t) (σ.1 r 2) (σ.1 r 3) σ).1 = nI k ∧ CRel sl al (r_X5_guessToSpill (r + 5 + 5 * t) (σ.1 r 2) (σ.1 r 3) σ).2 r A1 ∧ CSt (r_X5_guessToSpill (r + 5 + 5 * t) (σ.1 r 2) (σ.1 r 3) σ).2 r W n ∧ rfr (sAsk r t) σ (r_X5_guessToSpill (r + 5 + 5 * t) (σ.1 r 2) (σ.1 r 3) σ).2 ∧ p_X9_askOver (nI t) τ ∧ (r_X9_askOver (nI t) τ).1 = nI k ∧ MRel (r_X9_askOver (nI t) τ).2 (upd A1 (143 + 20 * t) (A (143 + 20 * t) + 1)) ∧ rfr sN τ (r_X9_askOver (nI t) τ).2 ∧ WF A1 W D RS TP ST ∧ ∀ i, ¬ i = 141 + 20 * t → ¬ i = 142 + 20 * t → A1 i = A i := by
  obtain ⟨y, k, y3, k16, eY, eK, y1, yd⟩ := h.2.2.2
  obtain ⟨-, -, -, -, -, -, -, -, -, ⟨c, c3, eC⟩, g, g16, eG⟩ := h.2.1 t ht
  have kY : σ.1 r 2 = nI y := (hC r 2 6 (lk_g (by omega))).trans eY
  have kN : σ.1 r 3 = nI k := (hC r 3 7 (lk_g (by omega))).trans eK
  have kC : σ.1 (r + 5 + 5 * t) 6 = nI c := (hC _ 6 _ (lk_t ht (by omega) (by omega))).trans ((congrArg A (show 135 + 20 * t + 6 = 141 + 20 * t by omega)).trans eC)
  have kG : σ.1 (r + 5 + 5 * t) 7 = A (142 + 20 * t) := (hC _ 7 _ (lk_t ht (by omega) (by omega))).trans (congrArg A (show 135 + 20 * t + 7 = 142 + 20 * t by omega))
  have l6 : Lk sl al r (r + 5 + 5 * t) 6 (141 + 20 * t) := by
    have := lk_t (sl := sl) (al := al) (r := r) (t := t) (k := 6) ht (by omega) (by omega)
    rw [show 135 + 20 * t + 6 = 141 + 20 * t by omega] at this
    exact this
  have l7 : Lk sl al r (r + 5 + 5 * t) 7 (142 + 20 * t) := by
    have := lk_t (sl := sl) (al := al) (r := r) (t := t) (k := 7) ht (by omega) (by omega)
    rw [show 135 + 20 * t + 7 = 142 + 20 * t by omega] at this
    exact this
  have hp : p_X9_askOver (nI t) τ := by
    unfold p_X9_askOver
    rw [at_7, at_5, at_6]
    exact ⟨vp_in_nI (by omega) (by decide), vp_in_nI (by omega) (by decide), vp_in_nI (by omega) (by decide)⟩
  have e1 : u_X9_askOver_1 (nI t) τ = zuI τ 469 (143 + 20 * t) (A (143 + 20 * t) + 1) := by
    unfold u_X9_askOver_1
    rw [at_7, nI_clamp (by omega), show 136 + 20 * t + 7 = 143 + 20 * t by omega, hM _ (by omega)]
  have hM1 : MRel (zuI τ 469 (143 + 20 * t) (A (143 + 20 * t) + 1)) (upd A (143 + 20 * t) (A (143 + 20 * t) + 1)) := hM.up
  have f1 : rfr sN τ (zuI τ 469 (143 + 20 * t) (A (143 + 20 * t) + 1)) := rfr.rf.uI (show sN _ _ from ⟨rfl, by omega⟩)
  have m6 : (zuI τ 469 (143 + 20 * t) (A (143 + 20 * t) + 1)).1 469 6 = nI y := by rw [gI_n (by omega), hM 6 (by omega), eY]
  have m7 : (zuI τ 469 (143 + 20 * t) (A (143 + 20 * t) + 1)).1 469 7 = nI k := by rw [gI_n (by omega), hM 7 (by omega), eK]
  have i5 : (f_X9_atTask (nI t) 5).toNatClampNeg = 141 + 20 * t := by rw [at_5, nI_clamp (by omega)]; omega
  have i6 : (f_X9_atTask (nI t) 6).toNatClampNeg = 142 + 20 * t := by rw [at_6, nI_clamp (by omega)]; omega
  have mC : (zuI τ 469 (143 + 20 * t) (A (143 + 20 * t) + 1)).1 469 (141 + 20 * t) = nI c := by rw [gI_n (by omega), hM _ (by omega), eC]
  have mG : (zuI τ 469 (143 + 20 * t) (A (143 + 20 * t) + 1)).1 469 (142 + 20 * t) = A (142 + 20 * t) := by rw [gI_n (by omega), hM _ (by omega)]
  unfold r_X5_guessToSpill u_X5_guessToSpill_1 u_X5_guessToSpill_2 u_X5_guessToSpill_3 r_X9_askOver u_X9_askOver_2 u_X9_askOver_3 u_X9_askOver_4
  rw [kY, kN, e1, i5, i6, m6, m7, mC, mG, kC, kG]
  rcases (show y = 0 ∨ y = 1 ∨ y = 2 ∨ y = 3 by omega) with rfl | rfl | rfl | rfl
  · rw [if_neg (show ¬ nI 0 = 1 by decide), if_neg (show ¬ nI 0 = 2 by decide), if_neg (show ¬ nI 0 = 3 by decide), if_pos (show nI 0 = 0 from rfl)]
    exact ⟨1, A, by omega, rfl, hC, hs, rfr.rf, hp, rfl, hM1, f1, h, fun _ _ _ => rfl⟩
  · rw [if_pos (show nI 1 = 1 from rfl), if_neg (show ¬ nI 1 = 0 by decide), if_pos (show nI 1 = 1 from rfl)]
    exact ⟨k, A, by have := y1 rfl; omega, rfl, hC, hs, rfr.rf, hp, rfl, hM1, f1, h, fun _ _ _ => rfl⟩
  · obtain ⟨q1, q2, q3, q4, q5, q6⟩ := g_cnt c (by omega)
    rw [if_neg (show ¬ nI 2 = 1 by decide), if_pos (show nI 2 = 2 from rfl), if_neg (show ¬ nI 2 = 0 by decide), if_neg (show ¬ nI 2 = 1 by decide), if_pos (show nI 2 = 2 from rfl)]
    rw [q2, q3, q1]
    have hc : (if 3 < c + 1 then 3 else c + 1) ≤ 3 := by split <;> omega
    exact ⟨c + 1, upd A (141 + 20 * t) (nI (if 3 < c + 1 then 3 else c + 1)), by omega, rfl, hC.up l6, hs.uI (by omega), rfr.rf.uI (show sAsk r t _ _ from ⟨rfl, Or.inl rfl⟩), hp, rfl, by rw [upd_c (by omega)]; exact hM1.up, f1.uI (show sN _ _ from ⟨rfl, by omega⟩), wf_cnt h ht hc, fun i n1 _ => pk_un n1⟩
  · rw [if_neg (show ¬ nI 3 = 1 by decide), if_neg (show ¬ nI 3 = 2 by decide), if_pos (show nI 3 = 3 from rfl), if_neg (show ¬ nI 3 = 0 by decide), if_neg (show ¬ nI 3 = 1 by decide), if_neg (show ¬ nI 3 = 2 by decide)]
    have k1 := yd rfl
    have hm : (if k < 2 * g then k else 2 * g) ≤ 16 := by split <;> omega
    by_cases hz : A (142 + 20 * t) ≤ 0
    · skip
      rw [if_pos hz, if_pos hz]
      rw [gI_h rfl rfl, gI_h rfl rfl]
      exact ⟨1, upd A (142 + 20 * t) (1), by omega, rfl, hC.up l7, hs.uI (by omega), rfr.rf.uI (show sAsk r t _ _ from ⟨rfl, Or.inr rfl⟩), hp, rfl, by rw [upd_c (by omega)]; exact hM1.up, f1.uI (show sN _ _ from ⟨rfl, by omega⟩), wf_gss (g := 1) h ht (by omega) (Or.inl rfl), fun i _ n2 => pk_un n2⟩
    · have eg : A (142 + 20 * t) = nI g := by
        rcases eG with z | z
        · exact z
        · exact absurd (by rw [z]; exact (g_sgn g (by omega)).1) hz
      have g1 : 1 ≤ g := by
        apply Nat.pos_of_ne_zero
        intro z
        rw [eg, z] at hz
        exact hz (by decide)
      obtain ⟨q1, q2, q3, q4, q5, q6⟩ := g_dbl g (by omega) g1 k (by omega) k1
      rw [if_neg hz, if_neg hz]
      rw [eg, q3, q4]
      rw [gI_h rfl rfl, gI_h rfl rfl]
      exact ⟨(if k < 2 * g then k else 2 * g), upd A (142 + 20 * t) (nI (if k < 2 * g then k else 2 * g)), ⟨by split <;> omega, hm⟩, rfl, hC.up l7, hs.uI (by omega), rfr.rf.uI (show sAsk r t _ _ from ⟨rfl, Or.inr rfl⟩), hp, rfl, by rw [upd_c (by omega)]; exact hM1.up, f1.uI (show sN _ _ from ⟨rfl, by omega⟩), wf_gss h ht hm (Or.inl rfl), fun i _ n2 => pk_un n2⟩
theorem ask_under {sl al r t W n : Nat} {σ τ : zS} {A : Nat → Int32} {D RS TP ST : Nat → Nat} (hs : CSt σ r W n) (hC : CRel sl al σ r A) (hM : MRel τ A) (h : WF A W D RS TP ST) (ht : t < 4) : ∃ (k : Nat) (A1 : Nat → Int32), (1 ≤ k ∧ k ≤ 16) ∧ (r_X5_guessToFill (r + 5 + 5 * t) (σ.1 r 2) (σ.1 r 3) σ).1 = nI k ∧ CRel sl al (r_X5_guessToFill (r + 5 + 5 * t) (σ.1 r 2) (σ.1 r 3) σ).2 r A1 ∧ CSt (r_X5_guessToFill (r + 5 + 5 * t) (σ.1 r 2) (σ.1 r 3) σ).2 r W n ∧ rfr (sAsk r t) σ (r_X5_guessToFill (r + 5 + 5 * t) (σ.1 r 2) (σ.1 r 3) σ).2 ∧ p_X9_askUnder (nI t) τ ∧ (r_X9_askUnder (nI t) τ).1 = nI k ∧ MRel (r_X9_askUnder (nI t) τ).2 A1 ∧ rfr sN τ (r_X9_askUnder (nI t) τ).2 ∧ WF A1 W D RS TP ST ∧ ∀ i, ¬ i = 141 + 20 * t → ¬ i = 142 + 20 * t → A1 i = A i := by
  obtain ⟨y, k, y3, k16, eY, eK, y1, yd⟩ := h.2.2.2
  obtain ⟨-, -, -, -, -, -, -, -, -, ⟨c, c3, eC⟩, g, g16, eG⟩ := h.2.1 t ht
  have kY : σ.1 r 2 = nI y := (hC r 2 6 (lk_g (by omega))).trans eY
  have kN : σ.1 r 3 = nI k := (hC r 3 7 (lk_g (by omega))).trans eK
  have kC : σ.1 (r + 5 + 5 * t) 6 = nI c := (hC _ 6 _ (lk_t ht (by omega) (by omega))).trans ((congrArg A (show 135 + 20 * t + 6 = 141 + 20 * t by omega)).trans eC)
  have kG : σ.1 (r + 5 + 5 * t) 7 = A (142 + 20 * t) := (hC _ 7 _ (lk_t ht (by omega) (by omega))).trans (congrArg A (show 135 + 20 * t + 7 = 142 + 20 * t by omega))
  have l6 : Lk sl al r (r + 5 + 5 * t) 6 (141 + 20 * t) := by
    have := lk_t (sl := sl) (al := al) (r := r) (t := t) (k := 6) ht (by omega) (by omega)
    rw [show 135 + 20 * t + 6 = 141 + 20 * t by omega] at this
    exact this
  have l7 : Lk sl al r (r + 5 + 5 * t) 7 (142 + 20 * t) := by
    have := lk_t (sl := sl) (al := al) (r := r) (t := t) (k := 7) ht (by omega) (by omega)
    rw [show 135 + 20 * t + 7 = 142 + 20 * t by omega] at this
    exact this
  have hp : p_X9_askUnder (nI t) τ := by
    unfold p_X9_askUnder
    rw [at_5, at_6]
    exact ⟨vp_in_nI (by omega) (by decide), vp_in_nI (by omega) (by decide)⟩
  have m6 : τ.1 469 6 = nI y := by rw [hM 6 (by omega), eY]
  have m7 : τ.1 469 7 = nI k := by rw [hM 7 (by omega), eK]
  have i5 : (f_X9_atTask (nI t) 5).toNatClampNeg = 141 + 20 * t := by rw [at_5, nI_clamp (by omega)]; omega
  have i6 : (f_X9_atTask (nI t) 6).toNatClampNeg = 142 + 20 * t := by rw [at_6, nI_clamp (by omega)]; omega
  have mC : τ.1 469 (141 + 20 * t) = nI c := by rw [hM _ (by omega), eC]
  have mG : τ.1 469 (142 + 20 * t) = A (142 + 20 * t) := by rw [hM _ (by omega)]
  have f1 : rfr sN τ τ := rfr.rf
  unfold r_X5_guessToFill u_X5_guessToFill_1 u_X5_guessToFill_2 u_X5_guessToFill_3 r_X9_askUnder u_X9_askUnder_1 u_X9_askUnder_2 u_X9_askUnder_3
  rw [kY, kN, i5, i6, m6, m7, mC, mG, kC, kG]
  rcases (show y = 0 ∨ y = 1 ∨ y = 2 ∨ y = 3 by omega) with rfl | rfl | rfl | rfl
  · rw [if_neg (show ¬ nI 0 = 1 by decide), if_neg (show ¬ nI 0 = 2 by decide), if_neg (show ¬ nI 0 = 3 by decide), if_pos (show nI 0 = 0 from rfl)]
    exact ⟨1, A, by omega, rfl, hC, hs, rfr.rf, hp, rfl, hM, f1, h, fun _ _ _ => rfl⟩
  · rw [if_pos (show nI 1 = 1 from rfl), if_neg (show ¬ nI 1 = 0 by decide), if_pos (show nI 1 = 1 from rfl)]
    exact ⟨k, A, by have := y1 rfl; omega, rfl, hC, hs, rfr.rf, hp, rfl, hM, f1, h, fun _ _ _ => rfl⟩
  · obtain ⟨q1, q2, q3, q4, q5, q6⟩ := g_cnt c (by omega)
    rw [if_neg (show ¬ nI 2 = 1 by decide), if_pos (show nI 2 = 2 from rfl), if_neg (show ¬ nI 2 = 0 by decide), if_neg (show ¬ nI 2 = 1 by decide), if_pos (show nI 2 = 2 from rfl)]
    rw [q5, q6, q4]
    have hc : (c - 1) ≤ 3 := by omega
    exact ⟨4 - c, upd A (141 + 20 * t) (nI (c - 1)), by omega, rfl, hC.up l6, hs.uI (by omega), rfr.rf.uI (show sAsk r t _ _ from ⟨rfl, Or.inl rfl⟩), hp, rfl, hM.up, f1.uI (show sN _ _ from ⟨rfl, by omega⟩), wf_cnt h ht hc, fun i n1 _ => pk_un n1⟩
  · rw [if_neg (show ¬ nI 3 = 1 by decide), if_neg (show ¬ nI 3 = 2 by decide), if_pos (show nI 3 = 3 from rfl), if_neg (show ¬ nI 3 = 0 by decide), if_neg (show ¬ nI 3 = 1 by decide), if_neg (show ¬ nI 3 = 2 by decide)]
    have k1 := yd rfl
    have hm : (if k < 2 * g then k else 2 * g) ≤ 16 := by split <;> omega
    by_cases hz : 0 ≤ A (142 + 20 * t)
    · skip
      rw [if_pos hz, if_pos hz]
      rw [gI_h rfl rfl, gI_h rfl rfl]
      skip
      exact ⟨1, upd A (142 + 20 * t) ((-1)), by omega, rfl, hC.up l7, hs.uI (by omega), rfr.rf.uI (show sAsk r t _ _ from ⟨rfl, Or.inr rfl⟩), hp, rfl, hM.up, f1.uI (show sN _ _ from ⟨rfl, by omega⟩), wf_gss (g := 1) h ht (by omega) (Or.inr rfl), fun i _ n2 => pk_un n2⟩
    · have eg : A (142 + 20 * t) = -(nI g) := by
        rcases eG with z | z
        · exact absurd (by rw [z]; exact (g_sgn g (by omega)).2) hz
        · exact z
      have g1 : 1 ≤ g := by
        apply Nat.pos_of_ne_zero
        intro z
        rw [eg, z] at hz
        exact hz (by decide)
      obtain ⟨q1, q2, q3, q4, q5, q6⟩ := g_dbl g (by omega) g1 k (by omega) k1
      rw [if_neg hz, if_neg hz]
      rw [eg, q5, q6]
      rw [gI_h rfl rfl, gI_h rfl rfl]
      rw [Int32.neg_neg]
      exact ⟨(if k < 2 * g then k else 2 * g), upd A (142 + 20 * t) (-(nI (if k < 2 * g then k else 2 * g))), ⟨by split <;> omega, hm⟩, rfl, hC.up l7, hs.uI (by omega), rfr.rf.uI (show sAsk r t _ _ from ⟨rfl, Or.inr rfl⟩), hp, rfl, hM.up, f1.uI (show sN _ _ from ⟨rfl, by omega⟩), wf_gss h ht hm (Or.inr rfl), fun i _ n2 => pk_un n2⟩
