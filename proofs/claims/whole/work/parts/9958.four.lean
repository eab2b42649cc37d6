/-! the four lines that tell numbers, as readLine has them -/
section IS
variable {N nb q b : Nat} {tx : Nat → Nat} {σ σ1 σ2 τ τ1 τ2 : zS} {Z : Nat → Prop}
theorem ln_win {m s e kd v w : Nat} (h : LNb nb tx q b m s e kd v w σ τ) (kk : kd = 310) (hN : 200000 < N) : p_X3_readWindows N σ ∧ p_X9_readLine (nI b) N τ ∧ p_X9_need 59 N (s_X9_readLine (nI b) N τ) ∧ LIN nb tx q b m e (fun j => j = 0) (r_X3_readWindows N σ) σ τ (s_X9_need 59 N (s_X9_readLine (nI b) N τ)) (fun σ1 τ1 => ∃ x, 2 ≤ x ∧ x ≤ 12 ∧ σ1.1 q 0 = nI x ∧ τ1.1 470 b = nI x) := by
  have n10 : ¬ (1 : Int32) = 0 := by decide
  have b2 := h.2.2.1.2.2
  have q3 := h.2.2.1.2.1
  have cb : (nI b).toNatClampNeg = b := nI_clamp (by omega)
  have vb : vp_in (nI b) 2 := vp_in_nI b2 (by decide)
  have w0 : f_X9_isWord 0 τ = if kd = 310 + 0 then 1 else 0 := rk_word (c := 0) h.2.2.2.1 h.2.2.2.2.1 (by decide)
  rw [if_pos kk] at w0
  obtain ⟨x1, x2, x3, x4, x5, x6⟩ := ln_one (i := 0) (k := 0) (lo := 2) (hi := 12) h (by decide) (by decide) (by decide) (by decide) hN
  have eL : s_X9_readLine (nI b) N τ = (if (r_X9_isOnce (nI 0) N τ).1 = 0 then (r_X9_isOnce (nI 0) N τ).2 else zuI (r_X9_numeral (nI 2) (nI 12) N (r_X9_isOnce (nI 0) N τ).2).2 (470 + 0) b (r_X9_numeral (nI 2) (nI 12) N (r_X9_isOnce (nI 0) N τ).2).1) := by
    unfold s_X9_readLine
    rw [w0, if_neg n10]
    unfold u_X9_readLine_16
    rw [cb]
    rfl
  rw [eL]
  have pn : ¬ (r_X3_readFirstTold 1 N σ).1 = 0 → _ := x4
  refine ⟨⟨x1, fun z => ?_⟩, ?_, x5, ?_⟩
  · obtain ⟨a1, a2⟩ := x4 z
    refine ⟨a1, fun z2 => ?_⟩
    obtain ⟨a3, a4⟩ := a2 z2
    have a3 : (u_X3_readWindows_2 N σ).2 2 1 = q + 1 := a3
    have er : (u_X3_readWindows_2 N σ).2 2 1 - 1 = q := by rw [a3]; rfl
    refine ⟨⟨by rw [a3]; omega, by rw [er]; exact ly_q q3⟩, ?_⟩
    unfold u_X3_readWindows_3
    rw [er]
    exact a4
  · unfold p_X9_readLine
    rw [w0]
    exact ⟨fun z => absurd z n10, fun _ => ⟨x2, fun z => ⟨x3 z, vb⟩⟩⟩
  · have er : r_X3_readWindows N σ = (if (r_X3_readFirstTold (nI (2 ^ 0)) N σ).1 = 0 then (0, (r_X3_readFirstTold (nI (2 ^ 0)) N σ).2) else (if (r_X3_readNumber (nI 2) (nI 12) N (r_X3_readFirstTold (nI (2 ^ 0)) N σ).2).1 = 0 then (0, (r_X3_readNumber (nI 2) (nI 12) N (r_X3_readFirstTold (nI (2 ^ 0)) N σ).2).2) else r_X3_readSign 59 N (zuI (r_X3_readNumber (nI 2) (nI 12) N (r_X3_readFirstTold (nI (2 ^ 0)) N σ).2).2 q 0 ((r_X3_readNumber (nI 2) (nI 12) N (r_X3_readFirstTold (nI (2 ^ 0)) N σ).2).2.1 2 5)))) := by
      unfold r_X3_readWindows
      by_cases c1 : (r_X3_readFirstTold 1 N σ).1 = 0
      · rw [if_pos c1]
        exact (if_pos c1).symm
      · rw [if_neg c1]
        refine Eq.trans ?_ (if_neg c1).symm
        by_cases c2 : (r_X3_readNumber 2 12 N (u_X3_readWindows_1 N σ)).1 = 0
        · rw [if_pos c2]
          exact (if_pos c2).symm
        · rw [if_neg c2]
          refine Eq.trans ?_ (if_neg c2).symm
          have a3 : (u_X3_readWindows_2 N σ).2 2 1 = q + 1 := ((x4 c1).2 c2).1
          have er : (u_X3_readWindows_2 N σ).2 2 1 - 1 = q := by rw [a3]; rfl
          unfold u_X3_readWindows_4 u_X3_readWindows_3
          rw [er]
          rfl
    rw [er]
    exact x6
theorem ln_sli {m s e kd v w : Nat} (h : LNb nb tx q b m s e kd v w σ τ) (kk : kd = 312) (hN : 200000 < N) : p_X3_readSlice N σ ∧ p_X9_readLine (nI b) N τ ∧ p_X9_need 59 N (s_X9_readLine (nI b) N τ) ∧ LIN nb tx q b m e (fun j => j = 3) (r_X3_readSlice N σ) σ τ (s_X9_need 59 N (s_X9_readLine (nI b) N τ)) (fun σ1 τ1 => ∃ x, 1 ≤ x ∧ x ≤ 50 ∧ σ1.1 q 3 = nI x ∧ τ1.1 473 b = nI x) := by
  have n10 : ¬ (1 : Int32) = 0 := by decide
  have b2 := h.2.2.1.2.2
  have q3 := h.2.2.1.2.1
  have cb : (nI b).toNatClampNeg = b := nI_clamp (by omega)
  have vb : vp_in (nI b) 2 := vp_in_nI b2 (by decide)
  have w0 : f_X9_isWord 0 τ = if kd = 310 + 0 then 1 else 0 := rk_word (c := 0) h.2.2.2.1 h.2.2.2.2.1 (by decide)
  have w1 : f_X9_isWord 1 τ = if kd = 310 + 1 then 1 else 0 := rk_word (c := 1) h.2.2.2.1 h.2.2.2.2.1 (by decide)
  have w2 : f_X9_isWord 2 τ = if kd = 310 + 2 then 1 else 0 := rk_word (c := 2) h.2.2.2.1 h.2.2.2.2.1 (by decide)
  rw [if_neg (by omega)] at w0 w1
  rw [if_pos kk] at w2
  obtain ⟨x1, x2, x3, x4, x5, x6⟩ := ln_one (i := 3) (k := 2) (lo := 1) (hi := 50) h (by decide) (by decide) (by decide) (by decide) hN
  have eL : s_X9_readLine (nI b) N τ = (if (r_X9_isOnce (nI 2) N τ).1 = 0 then (r_X9_isOnce (nI 2) N τ).2 else zuI (r_X9_numeral (nI 1) (nI 50) N (r_X9_isOnce (nI 2) N τ).2).2 (470 + 3) b (r_X9_numeral (nI 1) (nI 50) N (r_X9_isOnce (nI 2) N τ).2).1) := by
    unfold s_X9_readLine
    rw [w0, w1, w2, if_pos rfl, if_pos rfl, if_neg n10]
    unfold u_X9_readLine_11
    rw [cb]
    rfl
  rw [eL]
  refine ⟨⟨x1, fun z => ?_⟩, ?_, x5, ?_⟩
  · obtain ⟨a1, a2⟩ := x4 z
    refine ⟨a1, fun z2 => ?_⟩
    obtain ⟨a3, a4⟩ := a2 z2
    have a3 : (u_X3_readSlice_2 N σ).2 2 1 = q + 1 := a3
    have er : (u_X3_readSlice_2 N σ).2 2 1 - 1 = q := by rw [a3]; rfl
    refine ⟨⟨by rw [a3]; omega, by rw [er]; exact ly_q q3⟩, ?_⟩
    unfold u_X3_readSlice_3
    rw [er]
    exact a4
  · unfold p_X9_readLine
    rw [w0, w1, w2]
    exact ⟨fun _ => ⟨fun _ => ⟨fun z => absurd z n10, fun _ => ⟨x2, fun z => ⟨x3 z, vb⟩⟩⟩, fun z => absurd rfl z⟩, fun z => absurd rfl z⟩
  · have er : r_X3_readSlice N σ = (if (r_X3_readFirstTold (nI (2 ^ 2)) N σ).1 = 0 then (0, (r_X3_readFirstTold (nI (2 ^ 2)) N σ).2) else (if (r_X3_readNumber (nI 1) (nI 50) N (r_X3_readFirstTold (nI (2 ^ 2)) N σ).2).1 = 0 then (0, (r_X3_readNumber (nI 1) (nI 50) N (r_X3_readFirstTold (nI (2 ^ 2)) N σ).2).2) else r_X3_readSign 59 N (zuI (r_X3_readNumber (nI 1) (nI 50) N (r_X3_readFirstTold (nI (2 ^ 2)) N σ).2).2 q 3 ((r_X3_readNumber (nI 1) (nI 50) N (r_X3_readFirstTold (nI (2 ^ 2)) N σ).2).2.1 2 5)))) := by
      unfold r_X3_readSlice
      by_cases c1 : (r_X3_readFirstTold 4 N σ).1 = 0
      · rw [if_pos c1]
        exact (if_pos c1).symm
      · rw [if_neg c1]
        refine Eq.trans ?_ (if_neg c1).symm
        by_cases c2 : (r_X3_readNumber 1 50 N (u_X3_readSlice_1 N σ)).1 = 0
        · rw [if_pos c2]
          exact (if_pos c2).symm
        · rw [if_neg c2]
          refine Eq.trans ?_ (if_neg c2).symm
          have a3 : (u_X3_readSlice_2 N σ).2 2 1 = q + 1 := ((x4 c1).2 c2).1
          have er : (u_X3_readSlice_2 N σ).2 2 1 - 1 = q := by rw [a3]; rfl
          unfold u_X3_readSlice_4 u_X3_readSlice_3
          rw [er]
          rfl
    rw [er]
    exact x6
theorem ln_pri {m s e kd v w : Nat} (h : LNb nb tx q b m s e kd v w σ τ) (kk : kd = 313) (hN : 200000 < N) : p_X3_readPrice N σ ∧ p_X9_readLine (nI b) N τ ∧ p_X9_need 59 N (s_X9_readLine (nI b) N τ) ∧ LIN nb tx q b m e (fun j => j = 4 ∨ j = 5) (r_X3_readPrice N σ) σ τ (s_X9_need 59 N (s_X9_readLine (nI b) N τ)) (fun σ1 τ1 => ∃ x y, x ≤ 99 ∧ y ≤ 99 ∧ σ1.1 q 4 = nI x ∧ τ1.1 474 b = nI x ∧ σ1.1 q 5 = nI y ∧ τ1.1 475 b = nI y) := by
  have n10 : ¬ (1 : Int32) = 0 := by decide
  have b2 := h.2.2.1.2.2
  have q3 := h.2.2.1.2.1
  have cb : (nI b).toNatClampNeg = b := nI_clamp (by omega)
  have vb : vp_in (nI b) 2 := vp_in_nI b2 (by decide)
  have w0 : f_X9_isWord 0 τ = if kd = 310 + 0 then 1 else 0 := rk_word (c := 0) h.2.2.2.1 h.2.2.2.2.1 (by decide)
  have w1 : f_X9_isWord 1 τ = if kd = 310 + 1 then 1 else 0 := rk_word (c := 1) h.2.2.2.1 h.2.2.2.2.1 (by decide)
  have w2 : f_X9_isWord 2 τ = if kd = 310 + 2 then 1 else 0 := rk_word (c := 2) h.2.2.2.1 h.2.2.2.2.1 (by decide)
  have w3 : f_X9_isWord 3 τ = if kd = 310 + 3 then 1 else 0 := rk_word (c := 3) h.2.2.2.1 h.2.2.2.2.1 (by decide)
  rw [if_neg (by omega)] at w0 w1 w2
  rw [if_pos kk] at w3
  obtain ⟨x1, x2, x3, x4, x5, x6⟩ := ln_two (k := 3) (lo := 0) (hi := 99) h (by decide) (by decide) (by decide) hN _ rfl _ rfl _ rfl _ rfl _ rfl _ rfl
  have e6 : u_X9_readLine_6 (nI b) N τ = zuI (r_X9_numeral (nI 0) (nI 99) N (r_X9_isOnce (nI 3) N τ).2).2 474 b (r_X9_numeral (nI 0) (nI 99) N (r_X9_isOnce (nI 3) N τ).2).1 := by
    unfold u_X9_readLine_6
    rw [cb]
    rfl
  have eL : s_X9_readLine (nI b) N τ = (if (r_X9_isOnce (nI 3) N τ).1 = 0 then (r_X9_isOnce (nI 3) N τ).2 else zuI (r_X9_numeral (nI 0) (nI 99) N (zuI (r_X9_numeral (nI 0) (nI 99) N (r_X9_isOnce (nI 3) N τ).2).2 474 b (r_X9_numeral (nI 0) (nI 99) N (r_X9_isOnce (nI 3) N τ).2).1)).2 475 b (r_X9_numeral (nI 0) (nI 99) N (zuI (r_X9_numeral (nI 0) (nI 99) N (r_X9_isOnce (nI 3) N τ).2).2 474 b (r_X9_numeral (nI 0) (nI 99) N (r_X9_isOnce (nI 3) N τ).2).1)).1) := by
    unfold s_X9_readLine
    rw [w0, w1, w2, w3, if_pos rfl, if_pos rfl, if_pos rfl, if_neg n10]
    unfold u_X9_readLine_8 u_X9_readLine_7
    rw [e6, cb]
    rfl
  rw [eL]
  have A3 : ∀ c1 : ¬ (r_X3_readFirstTold 8 N σ).1 = 0, ¬ (r_X3_readNumber 0 99 N (u_X3_readPrice_1 N σ)).1 = 0 → u_X3_readPrice_3 N σ = zuI (r_X3_readNumber (nI 0) (nI 99) N (r_X3_readFirstTold (nI (2 ^ 3)) N σ).2).2 q 4 ((r_X3_readNumber (nI 0) (nI 99) N (r_X3_readFirstTold (nI (2 ^ 3)) N σ).2).2.1 2 5) ∧ (u_X3_readPrice_2 N σ).2 2 1 = q + 1 := fun c1 c2 => by
    have a3 : (u_X3_readPrice_2 N σ).2 2 1 = q + 1 := ((x4 c1).2 c2).1
    have er : (u_X3_readPrice_2 N σ).2 2 1 - 1 = q := by rw [a3]; rfl
    refine ⟨?_, a3⟩
    unfold u_X3_readPrice_3
    rw [er]
    rfl
  refine ⟨⟨x1, fun z => ?_⟩, ?_, x5, ?_⟩
  · obtain ⟨a1, a2⟩ := x4 z
    refine ⟨a1, fun z2 => ?_⟩
    obtain ⟨a3, a4, a5⟩ := a2 z2
    obtain ⟨e3, a3'⟩ := A3 z z2
    have er : (u_X3_readPrice_2 N σ).2 2 1 - 1 = q := by rw [a3']; rfl
    refine ⟨⟨by rw [a3']; omega, by rw [er]; exact ly_q q3⟩, by rw [e3]; exact a4, fun z3 => ?_⟩
    have z3' := z3
    rw [e3] at z3'
    obtain ⟨a6, a7⟩ := a5 z3'
    have e4 : u_X3_readPrice_4 N σ = (r_X3_readNumber (nI 0) (nI 99) N (zuI (r_X3_readNumber (nI 0) (nI 99) N (r_X3_readFirstTold (nI (2 ^ 3)) N σ).2).2 q 4 ((r_X3_readNumber (nI 0) (nI 99) N (r_X3_readFirstTold (nI (2 ^ 3)) N σ).2).2.1 2 5))).2 := by
      unfold u_X3_readPrice_4
      rw [e3]
      rfl
    have a6' : (u_X3_readPrice_4 N σ).2 2 1 = q + 1 := by rw [e4]; exact a6
    have er4 : (u_X3_readPrice_4 N σ).2 2 1 - 1 = q := by rw [a6']; rfl
    refine ⟨⟨by rw [a6']; omega, by rw [er4]; exact ly_q q3⟩, ?_⟩
    unfold u_X3_readPrice_5
    rw [er4, e4]
    exact a7
  · unfold p_X9_readLine
    rw [w0, w1, w2, w3]
    refine ⟨fun _ => ⟨fun _ => ⟨fun _ => ⟨fun z => absurd z n10, fun _ => ⟨x2, fun z => ?_⟩⟩, fun z => absurd rfl z⟩, fun z => absurd rfl z⟩, fun z => absurd rfl z⟩
    obtain ⟨a1, a2⟩ := x3 z
    refine ⟨a1, vb, ?_⟩
    rw [e6]
    exact a2
  · have er : r_X3_readPrice N σ = (if (r_X3_readFirstTold (nI (2 ^ 3)) N σ).1 = 0 then (0, (r_X3_readFirstTold (nI (2 ^ 3)) N σ).2) else (if (r_X3_readNumber (nI 0) (nI 99) N (r_X3_readFirstTold (nI (2 ^ 3)) N σ).2).1 = 0 then (0, (r_X3_readNumber (nI 0) (nI 99) N (r_X3_readFirstTold (nI (2 ^ 3)) N σ).2).2) else (if (r_X3_readNumber (nI 0) (nI 99) N (zuI (r_X3_readNumber (nI 0) (nI 99) N (r_X3_readFirstTold (nI (2 ^ 3)) N σ).2).2 q 4 ((r_X3_readNumber (nI 0) (nI 99) N (r_X3_readFirstTold (nI (2 ^ 3)) N σ).2).2.1 2 5))).1 = 0 then (0, (r_X3_readNumber (nI 0) (nI 99) N (zuI (r_X3_readNumber (nI 0) (nI 99) N (r_X3_readFirstTold (nI (2 ^ 3)) N σ).2).2 q 4 ((r_X3_readNumber (nI 0) (nI 99) N (r_X3_readFirstTold (nI (2 ^ 3)) N σ).2).2.1 2 5))).2) else r_X3_readSign 59 N (zuI (r_X3_readNumber (nI 0) (nI 99) N (zuI (r_X3_readNumber (nI 0) (nI 99) N (r_X3_readFirstTold (nI (2 ^ 3)) N σ).2).2 q 4 ((r_X3_readNumber (nI 0) (nI 99) N (r_X3_readFirstTold (nI (2 ^ 3)) N σ).2).2.1 2 5))).2 q 5 ((r_X3_readNumber (nI 0) (nI 99) N (zuI (r_X3_readNumber (nI 0) (nI 99) N (r_X3_readFirstTold (nI (2 ^ 3)) N σ).2).2 q 4 ((r_X3_readNumber (nI 0) (nI 99) N (r_X3_readFirstTold (nI (2 ^ 3)) N σ).2).2.1 2 5))).2.1 2 5))))) := by
      unfold r_X3_readPrice
      by_cases c1 : (r_X3_readFirstTold 8 N σ).1 = 0
      · rw [if_pos c1]
        exact (if_pos c1).symm
      · rw [if_neg c1]
        refine Eq.trans ?_ (if_neg c1).symm
        by_cases c2 : (r_X3_readNumber 0 99 N (u_X3_readPrice_1 N σ)).1 = 0
        · rw [if_pos c2]
          exact (if_pos c2).symm
        · rw [if_neg c2]
          refine Eq.trans ?_ (if_neg c2).symm
          obtain ⟨e3, a3'⟩ := A3 c1 c2
          have e4 : u_X3_readPrice_4 N σ = (r_X3_readNumber (nI 0) (nI 99) N (zuI (r_X3_readNumber (nI 0) (nI 99) N (r_X3_readFirstTold (nI (2 ^ 3)) N σ).2).2 q 4 ((r_X3_readNumber (nI 0) (nI 99) N (r_X3_readFirstTold (nI (2 ^ 3)) N σ).2).2.1 2 5))).2 := by
            unfold u_X3_readPrice_4
            rw [e3]
            rfl
          rw [e3, e4]
          by_cases c3 : (r_X3_readNumber 0 99 N (zuI (r_X3_readNumber (nI 0) (nI 99) N (r_X3_readFirstTold (nI (2 ^ 3)) N σ).2).2 q 4 ((r_X3_readNumber (nI 0) (nI 99) N (r_X3_readFirstTold (nI (2 ^ 3)) N σ).2).2.1 2 5))).1 = 0
          · rw [if_pos c3]
            exact (if_pos c3).symm
          · rw [if_neg c3]
            refine Eq.trans ?_ (if_neg c3).symm
            have a6' : (u_X3_readPrice_4 N σ).2 2 1 = q + 1 := by rw [e4]; exact (((x4 c1).2 c2).2.2 c3).1
            have er4 : (u_X3_readPrice_4 N σ).2 2 1 - 1 = q := by rw [a6']; rfl
            unfold u_X3_readPrice_6 u_X3_readPrice_5
            rw [er4, e4]
    rw [er]
    exact x6
theorem LIN.bit {m e : Nat} {Z : Nat → Prop} {r : Int32 × zS} {V : zS → zS → Prop} (h : LIN nb tx q b m e Z r σ τ τ1 V) (hb : ¬ (nI m &&& nI (2 ^ 1) = 0)) : LIN nb tx q b m e Z r σ τ τ1 (fun σ1 τ1 => V σ1 τ1 ∧ ¬ (σ1.1 2 4 &&& nI (2 ^ 1) = 0)) := by
  rcases h with h | ⟨a1, a2, a3, a4, m1, s1, e1, kd1, v1, w1, a5, a6, a7⟩
  · exact Or.inl h
  · refine Or.inr ⟨a1, a2, a3, ⟨a4, fun z => ?_⟩, m1, s1, e1, kd1, v1, w1, a5, a6, a7⟩
    rw [a5.2.2.2.2.2.1.1] at z
    exact hb (a7 1 (by decide) z)
theorem ln_han {m s e kd v w : Nat} (h : LNb nb tx q b m s e kd v w σ τ) (kk : kd = 311) (h72 : nI m &&& nI (2 ^ 1) = 0 → τ.1 472 b = 0) (hN : 200000 < N) : p_X3_readHandler N σ ∧ p_X9_readLine (nI b) N τ ∧ p_X9_need 59 N (s_X9_readLine (nI b) N τ) ∧ LIN nb tx q b m e Z12 (r_X3_readHandler N σ) σ τ (s_X9_need 59 N (s_X9_readLine (nI b) N τ)) (fun σ1 τ1 => WV q b σ1 τ1 ∧ ¬ (σ1.1 2 4 &&& nI (2 ^ 1) = 0)) := by
  have n10 : ¬ (1 : Int32) = 0 := by decide
  have b2 := h.2.2.1.2.2
  have q3 := h.2.2.1.2.1
  have cb : (nI b).toNatClampNeg = b := nI_clamp (by omega)
  have vb : vp_in (nI b) 2 := vp_in_nI b2 (by decide)
  have w0 : f_X9_isWord 0 τ = if kd = 310 + 0 then 1 else 0 := rk_word (c := 0) h.2.2.2.1 h.2.2.2.2.1 (by decide)
  have w1 : f_X9_isWord 1 τ = if kd = 310 + 1 then 1 else 0 := rk_word (c := 1) h.2.2.2.1 h.2.2.2.2.1 (by decide)
  rw [if_neg (by omega)] at w0
  rw [if_pos kk] at w1
  obtain ⟨x1, x2, x3⟩ := st_once (Z := Z12) (k := 1) h (by decide) hN
  have x3' := (st_once (Z := fun _ => False) (k := 1) h (by decide) hN).2.2
  have eL : s_X9_readLine (nI b) N τ = (if (r_X9_isOnce (nI 1) N τ).1 = 0 then (r_X9_isOnce (nI 1) N τ).2 else s_X9_readWay (nI b) N (r_X9_isOnce (nI 1) N τ).2) := by
    unfold s_X9_readLine
    rw [w0, w1, if_pos rfl, if_neg n10]
    rfl
  have pL : (¬ (r_X9_isOnce (nI 1) N τ).1 = 0 → p_X9_readWay (nI b) N (r_X9_isOnce (nI 1) N τ).2) → p_X9_readLine (nI b) N τ := fun y => by
    unfold p_X9_readLine
    rw [w0, w1]
    exact ⟨fun _ => ⟨fun z => absurd z n10, fun _ => ⟨x2, y⟩⟩, fun z => absurd rfl z⟩
  rw [eL]
  have eh : r_X3_readFirstTold (nI (2 ^ 1)) N σ = r_X3_readFirstTold 2 N σ := rfl
  rw [eh] at x3 x3'
  generalize hB : r_X9_isOnce (nI 1) N τ = B at *
  rcases x3 with ⟨y1, y2, y3, y4, y5⟩ | ⟨y1, y2, y4, y5, m1, s1, e1, kd1, v1, w1', g1, g2, bz, mo, bs⟩
  · obtain ⟨c, p, c1, c2, c3, c4, c5, c6, c7⟩ := y3
    obtain ⟨d1, d2⟩ := rf_need_bad (N := N) (x := 59) c1 c2 c6
    rw [if_pos y2, d2]
    refine ⟨⟨x1, fun z => absurd y1 z⟩, pL (fun z => absurd y2 z), d1, ?_⟩
    unfold r_X3_readHandler
    rw [if_pos y1]
    exact Or.inl ⟨rfl, ⟨c, p, c1, c2, c3, c4, c5, c6, c7⟩, y4, y5⟩
  · have y1n : ¬ (r_X3_readFirstTold 2 N σ).1 = 0 := by rw [y1]; exact n10
    have y2n : ¬ B.1 = 0 := by rw [y2]; exact n10
    rw [if_neg y2n]
    have B72 : B.2.1 472 b = 0 := by
      have : rfr (sY b (fun _ => False)) τ B.2 := by
        rcases x3' with z | z
        · exact z.2.2.2.2
        · exact z.2.2.2.1
      rw [this.2 _ _ (fun z => (show ((472 = 468 ∧ ((20 ≤ b ∧ b ≤ 26) ∨ b = 33)) ∨ (470 ≤ 472 ∧ 472 ≤ 475 ∧ b = b ∧ False)) from z).elim (fun z => by omega) (fun z => z.2.2.2))]
      exact h72 bz
    have s32 : (u_X3_readHandler_1 N σ).1 3 2 = nI kd1 := g1.2.2.2.1.2.2.2.2.2.1
    have hkd1 := g1.2.2.2.1.kd
    have g25 := g1.2.2.2.2.1
    have v6 : f_X9_isWord 6 B.2 = if kd1 = 310 + 6 then 1 else 0 := rk_word (c := 6) g1.2.2.2.1 g25 (by decide)
    have v7 : f_X9_isWord 7 B.2 = if kd1 = 310 + 7 then 1 else 0 := rk_word (c := 7) g1.2.2.2.1 g25 (by decide)
    have v8 : f_X9_isWord 8 B.2 = if kd1 = 310 + 8 then 1 else 0 := rk_word (c := 8) g1.2.2.2.1 g25 (by decide)
    have g1' : LNb nb tx q b m1 s1 e1 kd1 v1 w1' (u_X3_readHandler_1 N σ) (zuI B.2 471 b 3) := g1.eq (fun _ _ _ => rfl) rfl (fun Q j z => gI_n (by omega))
    have v9 : f_X9_isWord 9 (zuI B.2 471 b 3) = if kd1 = 310 + 9 then 1 else 0 := rk_word (c := 9) g1'.2.2.2.1 g1'.2.2.2.2.1 (by decide)
    have ne : ∀ c, c < 400 → ¬ kd1 = c → ¬ (u_X3_readHandler_1 N σ).1 3 2 = nI c := fun c hc y z => by
      rw [s32] at z
      exact y ((nI_eq (by omega) (by omega)).mp z)
    have s1le := g1.2.2.2.1.1
    by_cases ck : 316 ≤ kd1 ∧ kd1 ≤ 319
    · obtain ⟨y, hy⟩ : ∃ y, kd1 = 316 + y := ⟨kd1 - 316, by omega⟩
      have y3 : y ≤ 3 := by omega
      obtain ⟨z1, z2, z3, z4⟩ := wy_cls (y := y) g1 y3 hy B72 hN
      -- the reference's way
      have sw : s_X9_readWay (nI b) N B.2 = l_X9_readWay N N 0 (nI b) (zuI B.2 471 b (nI y)) ∧ p_X9_readWay (nI b) N B.2 := by
        rcases (show y = 0 ∨ y = 1 ∨ y = 2 ∨ y = 3 by omega) with rfl | rfl | rfl | rfl
        · rw [if_pos (by omega)] at v6
          have e7 : u_X9_readWay_7 (nI b) N B.2 = zuI B.2 471 b 0 := by unfold u_X9_readWay_7; rw [cb]
          unfold s_X9_readWay p_X9_readWay
          rw [v6, e7, cb, gI_h rfl rfl]
          refine ⟨?_, fun z => absurd z n10, fun _ => ⟨vb, fun _ => z2, fun z => absurd z (by decide)⟩⟩
          rw [if_neg n10, if_neg (show ¬ (0 : Int32) = 3 by decide)]
          rfl
        · rw [if_neg (by omega)] at v6
          rw [if_pos (by omega)] at v7
          have e5 : u_X9_readWay_5 (nI b) N B.2 = zuI B.2 471 b 1 := by unfold u_X9_readWay_5; rw [cb]
          unfold s_X9_readWay p_X9_readWay
          rw [v6, v7, e5, cb, gI_h rfl rfl]
          refine ⟨?_, fun _ => ⟨fun z => absurd z n10, fun _ => ⟨vb, fun _ => z2, fun z => absurd z (by decide)⟩⟩, fun z => absurd rfl z⟩
          rw [if_pos rfl, if_neg n10, if_neg (show ¬ (1 : Int32) = 3 by decide)]
          rfl
        · rw [if_neg (by omega)] at v6 v7
          rw [if_pos (by omega)] at v8
          have e3 : u_X9_readWay_3 (nI b) N B.2 = zuI B.2 471 b 2 := by unfold u_X9_readWay_3; rw [cb]
          unfold s_X9_readWay p_X9_readWay
          rw [v6, v7, v8, e3, cb, gI_h rfl rfl]
          refine ⟨?_, fun _ => ⟨fun _ => ⟨fun z => absurd z n10, fun _ => ⟨vb, fun _ => z2, fun z => absurd z (by decide)⟩⟩, fun z => absurd rfl z⟩, fun z => absurd rfl z⟩
          rw [if_pos rfl, if_pos rfl, if_neg n10, if_neg (show ¬ (2 : Int32) = 3 by decide)]
          rfl
        · rw [if_neg (by omega)] at v6 v7 v8
          rw [if_pos (by omega)] at v9
          have e1 : u_X9_readWay_1 (nI b) N B.2 = zuI B.2 471 b 3 := by unfold u_X9_readWay_1; rw [cb]
          unfold s_X9_readWay p_X9_readWay
          rw [v6, v7, v8, e1, cb, gI_h rfl rfl, v9]
          refine ⟨?_, fun _ => ⟨fun _ => ⟨fun _ => ⟨vb, fun z => absurd rfl z, fun _ => ⟨fun _ => z2, fun z => absurd z n10⟩⟩, fun z => absurd rfl z⟩, fun z => absurd rfl z⟩, fun z => absurd rfl z⟩
          rw [if_pos rfl, if_pos rfl, if_pos rfl, if_pos rfl, if_neg n10]
          rfl
      rw [sw.1]
      have eR : r_X3_readHandler N σ = l_X3_readHandler N N 0 (nI (316 + y)) (u_X3_readHandler_1 N σ) := by
        unfold r_X3_readHandler
        rw [if_neg y1n, s32, hy]
        rcases (show y = 0 ∨ y = 1 ∨ y = 2 ∨ y = 3 by omega) with rfl | rfl | rfl | rfl
        · rw [if_pos (show nI (316 + 0) = 316 from rfl)]
        · rw [if_neg (show ¬ nI (316 + 1) = 316 by decide), if_pos (show nI (316 + 1) = 317 from rfl)]
        · rw [if_neg (show ¬ nI (316 + 2) = 316 by decide), if_neg (show ¬ nI (316 + 2) = 317 by decide), if_pos (show nI (316 + 2) = 318 from rfl)]
        · rw [if_neg (show ¬ nI (316 + 3) = 316 by decide), if_neg (show ¬ nI (316 + 3) = 317 by decide), if_neg (show ¬ nI (316 + 3) = 318 by decide), if_pos (show nI (316 + 3) = 319 from rfl)]
      rw [eR]
      have z1' : q_X3_readHandler N N 0 ((u_X3_readHandler_1 N σ).1 3 2) (u_X3_readHandler_1 N σ) := by rw [s32, hy]; exact z1
      exact ⟨⟨x1, fun _ => ⟨fun _ => z1', fun _ => ⟨fun _ => z1', fun _ => ⟨fun _ => z1', fun _ _ => z1'⟩⟩⟩⟩, pL (fun _ => sw.2), z3, (z4.bit bs).pre y4 y5 (by omega) mo⟩
    · have n6 : ¬ kd1 = 316 := fun z => ck (by omega)
      have n7 : ¬ kd1 = 317 := fun z => ck (by omega)
      have n8 : ¬ kd1 = 318 := fun z => ck (by omega)
      have n9 : ¬ kd1 = 319 := fun z => ck (by omega)
      rw [if_neg n6] at v6
      rw [if_neg n7] at v7
      rw [if_neg n8] at v8
      rw [if_neg n9] at v9
      obtain ⟨sl, h33, h21⟩ := g1'.s1
      have g25' := g1'.2.2.2.2.1
      have fl : FLm 1 (zuI B.2 471 b 3) (s_X9_fail 1 (zuI B.2 471 b 3)) := rf_fail (c := 1) g25'
      obtain ⟨f1, f2, f3⟩ := ft2 (q := q) (b := b) (Z := Z12) (c := 1) (by decide) (by decide) sl h33 fl h21
      have nz : ¬ (s_X9_fail 1 (zuI B.2 471 b 3)).1 468 25 ≤ 0 := by
        have : s_X9_fail 1 (zuI B.2 471 b 3) = _ := fl
        rw [this, gI_n (by omega), gI_h rfl rfl]
        decide
      obtain ⟨N1, hN1⟩ : ∃ z, N = z + 1 := ⟨N - 1, by omega⟩
      have lw : l_X9_readWay N N 0 (nI b) (s_X9_fail 1 (zuI B.2 471 b 3)) = s_X9_fail 1 (zuI B.2 471 b 3) ∧ q_X9_readWay N N 0 (nI b) (s_X9_fail 1 (zuI B.2 471 b 3)) := by
        have a1 : l_X9_readWay N (N1 + 1) 0 (nI b) (s_X9_fail 1 (zuI B.2 471 b 3)) = s_X9_fail 1 (zuI B.2 471 b 3) := by rw [l_X9_readWay, if_neg nz]
        have a2 : q_X9_readWay N (N1 + 1) 0 (nI b) (s_X9_fail 1 (zuI B.2 471 b 3)) := by rw [q_X9_readWay]; exact fun z => absurd z nz
        rw [← hN1] at a1 a2
        exact ⟨a1, a2⟩
      have e1 : u_X9_readWay_1 (nI b) N B.2 = zuI B.2 471 b 3 := by unfold u_X9_readWay_1; rw [cb]
      have sw : s_X9_readWay (nI b) N B.2 = s_X9_fail 1 (zuI B.2 471 b 3) ∧ p_X9_readWay (nI b) N B.2 := by
        unfold s_X9_readWay p_X9_readWay u_X9_readWay_2
        rw [v6, v7, v8, e1, cb, gI_h rfl rfl, v9]
        refine ⟨?_, fun _ => ⟨fun _ => ⟨fun _ => ⟨vb, fun z => absurd rfl z, fun _ => ⟨fun z => absurd rfl z, fun _ => lw.2⟩⟩, fun z => absurd rfl z⟩, fun z => absurd rfl z⟩, fun z => absurd rfl z⟩
        rw [if_pos rfl, if_pos rfl, if_pos rfl, if_pos rfl, if_pos rfl, lw.1]
      rw [sw.1]
      have eR : r_X3_readHandler N σ = (0, zuI (zuI (u_X3_readHandler_1 N σ) 2 2 (nI 1)) 2 3 ((u_X3_readHandler_1 N σ).1 3 3)) := by
        unfold r_X3_readHandler
        rw [if_neg y1n, if_neg (show ¬ (u_X3_readHandler_1 N σ).1 3 2 = 316 from ne 316 (by decide) n6), if_neg (show ¬ (u_X3_readHandler_1 N σ).1 3 2 = 317 from ne 317 (by decide) n7), if_neg (show ¬ (u_X3_readHandler_1 N σ).1 3 2 = 318 from ne 318 (by decide) n8), if_neg (show ¬ (u_X3_readHandler_1 N σ).1 3 2 = 319 from ne 319 (by decide) n9)]
        rfl
      rw [eR]
      obtain ⟨c, p, c1, c2, c3, c4, c5, c6, c7⟩ := f1
      obtain ⟨d1, d2⟩ := rf_need_bad (N := N) (x := 59) c1 c2 c6
      rw [d2]
      have fB : rfr (sY b Z12) B.2 (zuI B.2 471 b 3) := rfr.rf.uI (Or.inr ⟨by omega, by omega, rfl, Or.inl rfl⟩)
      exact ⟨⟨x1, fun _ => ⟨fun z => absurd z (ne 316 (by decide) n6), fun _ => ⟨fun z => absurd z (ne 317 (by decide) n7), fun _ => ⟨fun z => absurd z (ne 318 (by decide) n8), fun _ z => absurd z (ne 319 (by decide) n9)⟩⟩⟩⟩, pL (fun _ => sw.2), d1, Or.inl ⟨rfl, ⟨c, p, c1, c2, c3, c4, c5, c6, c7⟩, y4.tr f2, (y5.tr fB).tr f3⟩⟩
end IS
