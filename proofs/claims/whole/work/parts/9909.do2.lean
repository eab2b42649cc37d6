/-! acts that set; back and on; boxes -/
section IS
variable {q1 q2 B W n L F U U1 r p l N : Nat} {K : aK} {H tf rg : Nat → Nat} {gv : Nat → Nat → Int32} {σ σ1 σ2 τ τ1 τ2 : zS} {x1 x2 x3 : Int32}
theorem pr_handler (h : Inv U σ τ) (hN : 200000 < N) : PR2 U (p_X8_handler x1 x2 N σ) (p_X9_handler x1 x2 N τ) (r_X8_handler x1 x2 N σ) (r_X9_handler x1 x2 N τ) σ τ := by
  have hI := h
  obtain ⟨q1, q2, B, W, n, K, L, F, H, tf, gv, p, l, rg, h⟩ := h
  have hpr := h.pr
  by_cases c : f_X8_handlerCanBe x1 x2 = 0
  · refine pr_same hI (Nat.le_refl _) (fun y => absurd c y) (fun y => absurd (hc_way.trans c) y) (x := 0) (y := 0) ?_ ?_ rfl
    · unfold r_X8_handler
      rw [if_pos c]
    · unfold r_X9_handler
      rw [hc_way, if_pos c]
  · obtain ⟨y1, y2, p', rg', y3, y4, y5, y6, y7⟩ := pr_act (N := N) h.2.2.2.2.2.2.1 hN (by have := hpr.2.2; omega)
    obtain ⟨A1, D1, RS1, TP1, ST1, C1, T1, M1, E1, b1, b2, b3, ⟨s, s1, s2, s3⟩, a, b, ha, hb, ha1, hb1⟩ := y3.2.2.2.2.2.2.2.2.2.1
    obtain ⟨w1, w2, w3, w4, w5, w6, w7⟩ := pr_way (N := N) b1 (by omega) c
    have ec : r_X8_handler x1 x2 N σ = (1, s_X4_changeHandler (rg' p') x1 x2 N (r_X1_nextAct N σ).2) := by
      unfold r_X8_handler u_X8_handler_2 u_X8_handler_1
      rw [if_neg c, y4]
    have er : r_X9_handler x1 x2 N τ = (1, s_X9_setWay x1 x2 N (s_X9_keepAct N τ)) := by
      unfold r_X9_handler u_X9_handler_2 u_X9_handler_1
      rw [hc_way, if_neg c]
    obtain ⟨v1, v2, v3⟩ := act_do h (Nat.le_refl U) y3 y5 y6 y7 w4 (fun q j z1 z2 z3 => w5.2 q j (fun z => z1 z.1)) w5.1 ⟨_, D1, RS1, TP1, ST1, C1, T1, M1, E1, w3, b2, (w7 0 (by omega) (by omega) (by omega)).trans b3, ⟨s, s1, s2, (w7 5 (by omega) (by omega) (by omega)).trans s3⟩, a, b, ha, hb, (w7 8 (by omega) (by omega) (by omega)).trans ha1, (w7 9 (by omega) (by omega) (by omega)).trans hb1⟩
    unfold PR2
    rw [ec, er]
    refine ⟨fun _ => ⟨y1, ?_⟩, fun _ => ⟨y2, w2⟩, rfl, v1, v2, v3⟩
    unfold u_X8_handler_1
    rw [y4]
    exact w1
theorem in99 {x : Int32} : (f_X9_isIn x 0 99 = 0 ∧ (x < 0 ∨ (¬ x < 0 ∧ 99 < x))) ∨ ∃ k, k ≤ 99 ∧ x = nI k ∧ f_X9_isIn x 0 99 = 1 ∧ ¬ x < 0 ∧ ¬ 99 < x := by
  by_cases c : x < 0
  · exact Or.inl ⟨isIn_lo c, Or.inl c⟩
  · by_cases c1 : 99 < x
    · exact Or.inl ⟨isIn_hi c1, Or.inr ⟨c, c1⟩⟩
    · refine Or.inr ?_
      rcases pk_ix x (n := 100) (by decide) with y | y | ⟨j, hj, rfl⟩
      · exact absurd y c
      · exact absurd (Int32.lt_of_lt_of_le (by decide) y) c1
      · exact ⟨j, by omega, rfl, isIn_in c c1, c, c1⟩
theorem pr_pric (h : Inv U σ τ) (hN : 200000 < N) : PR2 U (p_X8_price x1 x2 N σ) (p_X9_price x1 x2 N τ) (r_X8_price x1 x2 N σ) (r_X9_price x1 x2 N τ) σ τ := by
  have hI := h
  obtain ⟨q1, q2, B, W, n, K, L, F, H, tf, gv, p, l, rg, h⟩ := h
  have hpr := h.pr
  have n10 : ¬ (1 : Int32) = 0 := by decide
  rcases in99 (x := x1) with ⟨e, z⟩ | ⟨k, k1, k2, e, z0, z1⟩
  · refine pr_same hI (Nat.le_refl _) ?_ (fun y => absurd e y) (x := -1) (y := -1) ?_ ?_ rfl
    · rcases z with z | ⟨z0, z⟩
      · exact fun y => absurd z y
      · exact fun _ y => absurd z y
    · unfold r_X8_price
      rcases z with z | ⟨z0, z⟩
      · rw [if_pos z]
      · rw [if_neg z0, if_pos z]
    · unfold r_X9_price
      rw [e, if_pos rfl]
  · rcases in99 (x := x2) with ⟨e', z'⟩ | ⟨k', k1', k2', e', z0', z1'⟩
    · refine pr_same hI (Nat.le_refl _) ?_ (fun _ y => absurd e' y) (x := -1) (y := -1) ?_ ?_ rfl
      · rcases z' with z' | ⟨z0', z'⟩
        · exact fun _ _ y => absurd z' y
        · exact fun _ _ _ y => absurd y (Int32.not_le.mpr z')
      · unfold r_X8_price
        rw [if_neg z0, if_neg z1]
        rcases z' with z' | ⟨z0', z'⟩
        · rw [if_pos z']
        · rw [if_neg z0', if_neg (Int32.not_le.mpr z')]
      · unfold r_X9_price
        rw [e, if_neg n10, e', if_pos rfl]
    · obtain ⟨y1, y2, p', rg', y3, y4, y5, y6, y7⟩ := pr_act (N := N) h.2.2.2.2.2.2.1 hN (by have := hpr.2.2; omega)
      obtain ⟨A1, D1, RS1, TP1, ST1, C1, T1, M1, E1, b1, b2, b3, ⟨s, s1, s2, s3⟩, a, b, ha, hb, ha1, hb1⟩ := y3.2.2.2.2.2.2.2.2.2.1
      have w := pr_price (x := x1) (y := x2) b1
      have ec : r_X8_price x1 x2 N σ = (f_X4_cost (rg' p') (zuI (zuI (r_X1_nextAct N σ).2 (rg' p') 4 x1) (rg' p') 5 x2), zuI (zuI (r_X1_nextAct N σ).2 (rg' p') 4 x1) (rg' p') 5 x2) := by
        unfold r_X8_price u_X8_price_3 u_X8_price_2 u_X8_price_1
        rw [if_neg z0, if_neg z1, if_neg z0', if_pos (Int32.not_lt.mp z1'), y4]
      have er : r_X9_price x1 x2 N τ = (f_X9_cost (zuI (zuI (s_X9_keepAct N τ) 469 8 x1) 469 9 x2), zuI (zuI (s_X9_keepAct N τ) 469 8 x1) 469 9 x2) := by
        unfold r_X9_price u_X9_price_3 u_X9_price_2 u_X9_price_1
        rw [e, if_neg n10, e', if_neg n10]
      obtain ⟨v1, v2, v3⟩ := act_do (σ2 := zuI (zuI (r_X1_nextAct N σ).2 (rg' p') 4 x1) (rg' p') 5 x2) (τ2 := zuI (zuI (s_X9_keepAct N τ) 469 8 x1) 469 9 x2) h (Nat.le_refl U) y3 y5 y6 y7 ((zfr.rf.uI (by omega)).uI (by omega)) (fun q j z1 z2 z3 => by rw [gI_n (by omega), gI_n (by omega)]) rfl ⟨_, D1, RS1, TP1, ST1, C1, T1, M1, E1, w, b2, by rw [pk_un (by omega), pk_un (by omega)]; exact b3, ⟨s, s1, s2, by rw [pk_un (by omega), pk_un (by omega)]; exact s3⟩, k, k', k1, k1', by rw [pk_un (by omega), pk_us]; exact k2, by rw [pk_us]; exact k2'⟩
      unfold PR2
      rw [ec, er]
      exact ⟨fun _ _ _ _ => y1, fun _ _ => y2, w.cost.1, v1, v2, v3⟩
theorem pr_slic (h : Inv U σ τ) (hN : 200000 < N) : PR2 U (p_X8_slice x1 N σ) (p_X9_slice x1 N τ) (r_X8_slice x1 N σ) (r_X9_slice x1 N τ) σ τ := by
  have hI := h
  obtain ⟨q1, q2, B, W, n, K, L, F, H, tf, gv, p, l, rg, h⟩ := h
  have hpr := h.pr
  have n10 : ¬ (1 : Int32) = 0 := by decide
  rcases in500 (x := x1) (bI := 50) (b := 50) (by decide) rfl with ⟨e, z⟩ | ⟨k, k1, k2, k3, e, z0, z1⟩
  · refine pr_same hI (Nat.le_refl _) ?_ (fun y => absurd e y) (x := -1) (y := -1) ?_ ?_ rfl
    · rcases z with z | ⟨z0, z⟩
      · exact fun y => absurd z y
      · exact fun _ y => absurd y z
    · unfold r_X8_slice
      rcases z with z | ⟨z0, z⟩
      · rw [if_pos z]
      · rw [if_neg z0, if_neg z]
    · unfold r_X9_slice
      rw [e, if_pos rfl]
  · obtain ⟨y1, y2, p', rg', y3, y4, y5, y6, y7⟩ := pr_act (N := N) h.2.2.2.2.2.2.1 hN (by have := hpr.2.2; omega)
    obtain ⟨A1, D1, RS1, TP1, ST1, C1, T1, M1, E1, b1, b2, b3, ⟨s, s1, s2, s3⟩, a, b, ha, hb, ha1, hb1⟩ := y3.2.2.2.2.2.2.2.2.2.1
    have w := pr_slice (x := x1) (y := x1) b1 (fun _ => rfl)
    have ec : r_X8_slice x1 N σ = ((r_X1_nextAct N σ).2.1 (rg' p') 6, zuI (r_X1_nextAct N σ).2 (rg' p') 6 x1) := by
      unfold r_X8_slice u_X8_slice_2 u_X8_slice_1
      rw [if_neg z0, if_pos z1, y4]
    have er : r_X9_slice x1 N τ = ((s_X9_keepAct N τ).1 469 5, zuI (s_X9_keepAct N τ) 469 5 x1) := by
      unfold r_X9_slice u_X9_slice_2 u_X9_slice_1
      rw [e, if_neg n10]
    obtain ⟨v1, v2, v3⟩ := act_do (σ2 := zuI (r_X1_nextAct N σ).2 (rg' p') 6 x1) (τ2 := zuI (s_X9_keepAct N τ) 469 5 x1) h (Nat.le_refl U) y3 y5 y6 y7 (zfr.rf.uI (by omega)) (fun q j z1 z2 z3 => by rw [gI_n (by omega)]) rfl ⟨_, D1, RS1, TP1, ST1, C1, T1, M1, E1, w, b2, by rw [pk_un (by omega)]; exact b3, ⟨k, k1, k2, by rw [pk_us]; exact k3⟩, a, b, ha, hb, by rw [pk_un (by omega)]; exact ha1, by rw [pk_un (by omega)]; exact hb1⟩
    unfold PR2
    rw [ec, er]
    refine ⟨fun _ _ => y1, fun _ => y2, ?_, v1, v2, v3⟩
    show (r_X1_nextAct N σ).2.1 (rg' p') 6 = (s_X9_keepAct N τ).1 469 5
    rw [b1.2.2.1 _ 6 5 (lk_g (by omega)), b1.2.2.2.2.2.2.1 5 (by omega)]
theorem pr_agai (h : Inv U σ τ) (hN : 200000 < N) : PR2 U (p_X8_again x1 N σ) (p_X9_again x1 N τ) (r_X8_again x1 N σ) (r_X9_again x1 N τ) σ τ := by
  have hI := h
  obtain ⟨q1, q2, B, W, n, K, L, F, H, tf, gv, p, l, rg, h⟩ := h
  have hpr := h.pr
  have n10 : ¬ (1 : Int32) = 0 := by decide
  obtain ⟨A, D, RS, TP, ST, C, T, M, E, g1, g2, -, g3, -⟩ := h.get
  obtain ⟨i1, i2, i3⟩ := isT (x := x1) h
  rcases i3 with ⟨e1, e2⟩ | ⟨t, ht, rfl, e1, e2⟩
  · refine pr_same hI (Nat.le_refl _) ⟨i1, fun y => absurd e1 y⟩ ⟨i2, fun y => absurd e2 y⟩ (x := 0) (y := 0) ?_ ?_ rfl
    · unfold r_X8_again
      rw [e1, if_pos rfl]
    · unfold r_X9_again
      rw [e2, if_pos rfl]
  · have n4 := g3.2.2.2.2.2.2.2.2.2.2.1.2.2.2.1
    have ht4 : t < 4 := by omega
    obtain ⟨w1, w2, -⟩ := g3.2.2.2.2.2.2.2.1.2.1 t ht4
    have oc := cl_over g3.2.1.2.2 ht4 w2 (g3.2.2.2.2.2.2.2.2.2.2.2.2.2.1 t ht4)
    obtain ⟨om, op⟩ := rf_over g3.2.2.2.2.2.2.1 ht4 w2 w1
    have pc := tk_p g3.1.1 g3.2.1.2.2 ht4
    by_cases c : 2 ≤ ST t
    · rw [if_pos c] at oc om
      obtain ⟨y1, y2, p', rg', y3, y4, y5, y6, y7⟩ := pr_act (N := N) h.2.2.2.2.2.2.1 hN (by have := hpr.2.2; omega)
      obtain ⟨A1, D1, RS1, TP1, ST1, C1, T1, M1, E1, b1, b2, b3, ⟨s, s1, s2, s3⟩, a, b, ha, hb, ha1, hb1⟩ := y3.2.2.2.2.2.2.2.2.2.1
      have es : ST1 t = ST t := by
        have q1' := (b1.2.2.2.2.2.2.2.1.2.1 t ht4).1
        have q2' := (b1.2.2.2.2.2.2.2.1.2.1 t ht4).2.1
        have q3' : A1 (136 + 20 * t) = A (136 + 20 * t) := by
          rw [← b1.2.2.2.2.2.2.1 _ (by omega), y6 _ _ (by omega) (by omega), g3.2.2.2.2.2.2.1 _ (by omega)]
        rw [q1', w1] at q3'
        exact (nI_eq (by omega) (by omega)).mp q3'
      obtain ⟨v1, v2, v3, v4, v5, v6⟩ := pr_again (N := N) b1 (by omega) ht (by omega)
      have ec : r_X8_again (nI t) N σ = (1, s_X4_restart (rg' p') (nI t) (r_X1_nextAct N σ).2) := by
        unfold r_X8_again u_X8_again_2 u_X8_again_1
        rw [e1, if_neg n10, g1, oc, if_neg n10, y4]
      have er : r_X9_again (nI t) N τ = (1, if (s_X9_clearTask (nI t) N (s_X9_keepAct N τ)).1 469 3 < 0 then zuI (s_X9_clearTask (nI t) N (s_X9_keepAct N τ)) 469 3 (nI t) else s_X9_clearTask (nI t) N (s_X9_keepAct N τ)) := by
        unfold r_X9_again u_X9_again_3 u_X9_again_2 u_X9_again_1
        rw [e2, if_neg n10, om, if_neg n10]
        by_cases cz : (s_X9_clearTask (nI t) N (s_X9_keepAct N τ)).1 469 3 < 0
        · rw [if_pos cz, if_neg (Int32.not_le.mpr cz)]
        · rw [if_neg cz, if_pos (Int32.not_lt.mp cz)]
      obtain ⟨u1, u2, u3⟩ := act_do h (Nat.le_refl U) y3 y5 y6 y7 v4 (fun q j z1 z2 z3 => v5.2 q j (fun z => z1 z.1)) v5.1 ⟨_, D1, RS1, TP1, _, C1, T1, M1, E1, v3, ⟨b2.1, b2.2.1, b2.2.2.1, fun v v1 v2 => by rw [fu_n (by omega)]; exact b2.2.2.2 v v1 v2⟩, (v6 0 (by omega) (by omega)).trans b3, ⟨s, s1, s2, (v6 5 (by omega) (by omega)).trans s3⟩, a, b, ha, hb, (v6 8 (by omega) (by omega)).trans ha1, (v6 9 (by omega) (by omega)).trans hb1⟩
      unfold PR2
      rw [ec, er]
      refine ⟨⟨i1, fun _ => ⟨g2, by rw [g1]; exact pc, fun _ => ⟨y1, ?_⟩⟩⟩, ⟨i2, fun _ => ⟨op, fun _ => ⟨y2, v2⟩⟩⟩, rfl, u1, u2, u3⟩
      unfold u_X8_again_1
      rw [y4]
      exact v1
    · rw [if_neg c] at oc om
      refine pr_same hI (Nat.le_refl _) ⟨i1, fun _ => ⟨g2, by rw [g1]; exact pc, fun y => absurd (by rw [g1]; exact oc) y⟩⟩ ⟨i2, fun _ => ⟨op, fun y => absurd om y⟩⟩ (x := 0) (y := 0) ?_ ?_ rfl
      · unfold r_X8_again
        rw [e1, if_neg n10, g1, oc, if_pos rfl]
      · unfold r_X9_again
        rw [e2, if_neg n10, om, if_pos rfl]
theorem pr_und (h : Inv U σ τ) (hN : 200000 < N) : PR2 U True (p_X9_undo N τ) (r_X8_undo σ) (r_X9_undo N τ) σ τ := by
  obtain ⟨q1, q2, B, W, n, K, L, F, H, tf, gv, p, l, rg, h⟩ := h
  have hpr := h.pr
  obtain ⟨u1, u2, p', u3, u4, u5, u6⟩ := pr_undo (N := N) h.2.2.2.2.2.2.1 hN (by have := hpr.2.2; omega)
  refine ⟨trivial, u1, u2, ⟨q1, q2, B, W, n, K, L, F, H, tf, gv, p', l, rg, h.his (Nat.le_refl _) u3 u4 (fun q j z1 z2 z3 z4 => u5 q j z2 z1 (by omega))⟩, u4.wk (by omega), fun q hq1 => ⟨funext fun j => u5 q j (by omega) (by omega) (by omega), by rw [u6]⟩⟩
theorem pr_red (h : Inv U σ τ) (hN : 200000 < N) : PR2 U True (p_X9_redo N τ) (r_X8_redo σ) (r_X9_redo N τ) σ τ := by
  obtain ⟨q1, q2, B, W, n, K, L, F, H, tf, gv, p, l, rg, h⟩ := h
  have hpr := h.pr
  obtain ⟨u1, u2, p', u3, u4, u5, u6⟩ := pr_redo (N := N) h.2.2.2.2.2.2.1 hN (by have := hpr.2.2; omega)
  refine ⟨trivial, u1, u2, ⟨q1, q2, B, W, n, K, L, F, H, tf, gv, p', l, rg, h.his (Nat.le_refl _) u3 u4 (fun q j z1 z2 z3 z4 => u5 q j z2 z1 (by omega))⟩, u4.wk (by omega), fun q hq1 => ⟨funext fun j => u5 q j (by omega) (by omega) (by omega), by rw [u6]⟩⟩
/-! boxes -/
theorem box_in {x : Int32} : (f_X9_isIn x 0 1 = 0 ∧ (x < 0 ∨ (¬ x < 0 ∧ 2 ≤ x))) ∨ ∃ b, b < 2 ∧ x = nI b ∧ f_X9_isIn x 0 1 = 1 := by
  rcases inN (x := x) (n := 2) (by decide) with y | y
  · exact Or.inl y
  · exact Or.inr y
set_option maxRecDepth 100000 in
theorem pr_imag (h : Inv U σ τ) (hN : 200000 < N) : PR2 U (p_X8_image x1 N σ) (p_X9_image x1 N τ) (r_X8_image x1 N σ) (r_X9_image x1 N τ) σ τ := by
  have hI := h
  obtain ⟨q1, q2, B, W, n, K, L, F, H, tf, gv, p, l, rg, h⟩ := h
  have hpr := h.pr
  have n10 : ¬ (1 : Int32) = 0 := by decide
  rcases box_in (x := x1) with ⟨e, z⟩ | ⟨b, hb, rfl, e⟩
  · refine pr_same hI (Nat.le_refl _) ?_ (fun y => absurd e y) (x := -1) (y := -1) ?_ ?_ rfl
    · rcases z with z | ⟨z0, z⟩
      · exact fun y => absurd z y
      · exact fun _ y => absurd z y
    · unfold r_X8_image
      rcases z with z | ⟨z0, z⟩
      · rw [if_pos z]
      · rw [if_neg z0, if_pos z]
    · unfold r_X9_image
      rw [e, if_pos rfl]
  · obtain ⟨A, D, RS, TP, ST, C, T, M, E, g1, g2, ⟨c, cc1, cc2⟩, g3, -⟩ := h.get
    have hI4 := h
    obtain ⟨a1, a2, a3, a4, a5, a6, a7, a8, a9, a10, a11, a12⟩ := h
    obtain ⟨c1, c2, c3, c4⟩ := a7.2.2.2.2.2.2.2.2.2.1.cop (N := N) (r := 394 + 25 * b) (by omega) (Rly.box hb) (by have := hpr.2.2; omega) (by omega) (a9.2.2.1 b hb)
    obtain ⟨w, hw⟩ : ∃ w, N = w + 11441 := ⟨N - 11441, by omega⟩
    obtain ⟨τ1, i1, i2, i3, i4, i5⟩ := rw_image (N := N) hb 11440 0 τ (Nat.zero_add _) N w (by omega)
    have e357 : σ.2 357 (nI b).toNatClampNeg - 1 = 394 + 25 * b := by
      rw [nI_clamp (by omega), a9.1 b hb]
      rfl
    have z0 : ¬ nI b < 0 := nI_pos (by omega)
    have z2 : ¬ (2 : Int32) ≤ nI b := nI_ge (b := 2) hb (by decide)
    have z3 : nI b < 2 := nI_lt (b := 2) hb (by decide)
    have eu1 : u_X8_image_1 (nI b) N σ = s_X4_copyFrom (394 + 25 * b) (rg p) N σ := by
      unfold u_X8_image_1
      rw [e357, g1]
    have eu2 : u_X8_image_2 (nI b) N σ = zuI (s_X4_copyFrom (394 + 25 * b) (rg p) N σ) 358 b 1 := by
      unfold u_X8_image_2
      rw [eu1, nI_clamp (by omega), nar1]
    have em1 : u_X9_image_h0_1 N (nI b) (nI 11440) τ1 = zuI τ1 500 b 1 := by
      unfold u_X9_image_h0_1
      rw [nI_clamp (by omega), nar1]
    rw [em1] at i1
    generalize s_X4_copyFrom (394 + 25 * b) (rg p) N σ = σ1 at c2 c3 c4 eu2
    have fz : zfr 358 444 σ (zuI σ1 358 b 1) := (c3.wk (by omega)).uI (by omega)
    have hin : IV q1 q2 B W n K L F H tf gv p l rg U (zuI σ1 358 b 1) (zuI τ1 500 b 1) := by
      obtain ⟨nt, t1, t2, t3, t4⟩ := a10
      have mo : ∀ q j, ¬ q = 499 → ¬ (q = 500 ∧ j = b) → (zuI τ1 500 b 1).1 q j = τ.1 q j := fun q j y1 y2 => by rw [gI_n (by omega), i4 _ _ (by omega)]
      have hq := hpr.2.2
      refine ⟨a1, (fz.at2 (by omega)).trans a2, (fz.at2 (by omega)).trans a3, (mo _ _ (by omega) (by omega)).trans a4, a5.eq (fun j => fz.at (by omega)) (fun q j y1 y2 => mo _ _ (by omega) (by omega)), a6.eq2 (mo _ _ (by omega) (by omega)) (fun q j y1 y2 => fz.at (by omega)) (fun q j y1 y2 => mo _ _ (by omega) (by omega)), ?_, fun b' hb' => ⟨?_, fun y => ?_⟩, ⟨fun b' hb' => (fz.at2 (by omega)).trans (a9.1 b' hb'), fun v hv => ?_, fun b' hb' v hv => ?_, fun i hi => ⟨?_, ?_⟩, ?_⟩, ⟨nt, t1, (fz.at (by omega)).trans t2, (mo _ _ (by omega) (by omega)).trans t3, fun i hi => ?_⟩, ⟨?_, ?_⟩, fun i hi => (mo _ _ (by omega) (by omega)).trans (a12 i hi)⟩
      · obtain ⟨h1, h2, h3, h4, h5, h6, h7, h8, h9, h10, h11, h12⟩ := a7
        have sg : ∀ k τ2, k < 13 → RW q1 B W n K L F H tf gv U (rg k) σ τ2 → RW q1 B W n K L F H tf gv U (rg k) (zuI σ1 358 b 1) τ2 := fun k τ2 hk g => by
          obtain ⟨c, c1, c2⟩ := h6 k hk
          exact g.sig (fun q j z => fz.at (by omega)) (fun q j z1 z2 => fz.at2 (by omega))
        have mv : ∀ k o, k < 13 → RW q1 B W n K L F H tf gv U (rg k) σ (tw τ 498 o) → RW q1 B W n K L F H tf gv U (rg k) (zuI σ1 358 b 1) (tw (zuI τ1 500 b 1) 498 o) := fun k o hk g => by
          refine (sg k _ hk g).tau ?_ (fun q j z => ?_) (fun j hj => ?_)
          · rw [tw_o (by decide), tw_o (by decide)]; exact mo _ _ (by omega) (by omega)
          · rw [tw_o (by omega), tw_o (by omega)]; exact mo _ _ (by omega) (by omega)
          · rw [tw_h, tw_h]; exact mo _ _ (by omega) (by omega)
        refine ⟨h1, (fz.at (by omega)).trans h2, (fz.at (by omega)).trans h3, (mo _ _ (by omega) (by omega)).trans h4, (mo _ _ (by omega) (by omega)).trans h5, h6, h7, fun i hi => (fz.at2 (by omega)).trans (h8 i hi), fun i hi v hv => ?_, (sg p _ (by omega) h10).tau (mo _ _ (by omega) (by omega)) (fun q j z => mo _ _ (by omega) (by omega)) (fun j hj => mo _ _ (by omega) (by omega)), fun k hk => mv k _ (by omega) (h11 k hk), fun k k1 k2 => mv k _ (by omega) (h12 k k1 k2)⟩
        obtain ⟨c, c1, c2⟩ := h6 i hi
        rw [fz.at2 (by omega)]
        exact h9 i hi v hv
      · by_cases eb : b' = b
        · rw [eb, gI_h rfl rfl, gI_h rfl rfl]
        · rw [gI_n (by omega), gI_n (by omega), c3.at (by omega), i4 _ _ (by omega)]
          exact (a8 b' hb').1
      · by_cases eb : b' = b
        · subst eb
          refine (c2.sig (fun q j z => gI_n (by omega)) (fun q j z1 z2 => rfl)).tau ?_ (fun q j z => ?_) (fun j hj => ?_)
          · rw [tw_o (by decide)]; exact mo _ _ (by omega) (by omega)
          · rw [tw_o (by omega)]; exact mo _ _ (by omega) (by omega)
          · rw [tw_h, gI_n (by omega), i3 j (by omega) hj]
        · rw [gI_n (by omega), c3.at (by omega)] at y
          refine (((a8 b' hb').2 y).sig (fun q j z => by rw [gI_n (by omega), c3.at (by omega)]) (fun q j z1 z2 => by rw [gI_2, c3.at2 (by omega)])).tau ?_ (fun q j z => ?_) (fun j hj => ?_)
          · rw [tw_o (by decide), tw_o (by decide)]; exact mo _ _ (by omega) (by omega)
          · rw [tw_o (by omega), tw_o (by omega)]; exact mo _ _ (by omega) (by omega)
          · rw [tw_h, tw_h, gI_n (by omega), i4 _ _ (by omega)]
      · rw [gI_2, c4 _ _ (by omega)]
        exact a9.2.1 v hv
      · rw [gI_2, c4 _ _ (by omega)]
        exact a9.2.2.1 b' hb' v hv
      · rw [gI_2, c4 _ _ (by omega)]
        exact (a9.2.2.2.1 i hi).1
      · rw [gI_2, c3.at2 (by omega)]
        exact (a9.2.2.2.1 i hi).2
      · rw [gI_2, c3.at2 (by omega)]
        exact a9.2.2.2.2
      · obtain ⟨b', b1, b2, b3⟩ := t4 i hi
        exact ⟨b', b1, (fz.at (by omega)).trans b2, (mo _ _ (by omega) (by omega)).trans b3⟩
      · rw [fz.at (by omega), mo _ _ (by omega) (by omega)]
        exact a11.1
      · rw [fz.at (by omega), mo _ _ (by omega) (by omega)]
        exact a11.2
    obtain ⟨A', D', RS', TP', ST', C', T', M', E', g1', g2', -, g3', -⟩ := hin.get
    have ec : r_X8_image (nI b) N σ = ((zuI σ1 358 b 1).1 (rg p) 9, zuI σ1 358 b 1) := by
      unfold r_X8_image
      rw [if_neg z0, if_neg z2, if_pos z3, eu2, g1']
    have er : r_X9_image (nI b) N τ = ((zuI τ1 500 b 1).1 469 0, zuI τ1 500 b 1) := by
      unfold r_X9_image
      rw [e, if_neg n10]
      exact i1
    unfold PR2
    rw [ec, er]
    refine ⟨?_, fun _ => i2 trivial, ?_, ⟨q1, q2, B, W, n, K, L, F, H, tf, gv, p, l, rg, hin⟩, fz.wk (by omega), fun q hq1 => ⟨funext fun j => by rw [gI_n (by omega), i4 _ _ (by omega)], by show τ1.2 q = τ.2 q; rw [i5]⟩⟩
    · unfold p_X8_image
      rw [eu2, g1, e357]
      exact fun _ _ _ => ⟨vp_in_nI hb (by decide), ⟨by rw [nI_clamp (by omega), a9.1 b hb]; omega, Rly.self (Rly.box hb)⟩, g2, c1, g2'⟩
    · show (zuI σ1 358 b 1).1 (rg p) 9 = (zuI τ1 500 b 1).1 469 0
      rw [g3'.2.2.1 _ 9 0 (lk_g (by omega)), g3'.2.2.2.2.2.2.1 0 (by omega)]
set_option maxRecDepth 100000 in
theorem pr_bac (h : Inv U σ τ) (hN : 200000 < N) : PR2 U (p_X8_back x1 N σ) (p_X9_back x1 N τ) (r_X8_back x1 N σ) (r_X9_back x1 N τ) σ τ := by
  have hI := h
  obtain ⟨q1, q2, B, W, n, K, L, F, H, tf, gv, p, l, rg, h⟩ := h
  have hpr := h.pr
  have n10 : ¬ (1 : Int32) = 0 := by decide
  rcases box_in (x := x1) with ⟨e, z⟩ | ⟨b, hb, rfl, e⟩
  · refine pr_same hI (Nat.le_refl _) ?_ (fun y => absurd e y) (x := -1) (y := -1) ?_ ?_ rfl
    · rcases z with z | ⟨z0, z⟩
      · exact fun y => absurd z y
      · exact fun _ y => absurd z y
    · unfold r_X8_back
      rcases z with z | ⟨z0, z⟩
      · rw [if_pos z]
      · rw [if_neg z0, if_pos z]
    · unfold r_X9_back
      rw [e, if_pos rfl]
  · have z0 : ¬ nI b < 0 := nI_pos (by omega)
    have z2 : ¬ (2 : Int32) ≤ nI b := nI_ge (b := 2) hb (by decide)
    have hq := hpr.2.2
    have h' := h
    obtain ⟨a1, a2, a3, a4, a5, a6, a7, a8, a9, a10, a11, a12⟩ := h
    obtain ⟨x8a, x8b⟩ := a8 b hb
    by_cases cz : σ.1 358 b = 0
    · refine pr_same hI (Nat.le_refl _) (fun _ _ _ => ⟨vp_in_nI hb (by decide), fun y => absurd (by rw [nI_clamp (by omega)]; exact cz) y⟩) (fun _ => ⟨vp_in_nI hb (by decide), fun y => absurd (by rw [nI_clamp (by omega), ← x8a]; exact cz) y⟩) (x := -1) (y := -1) ?_ ?_ rfl
      · unfold r_X8_back
        rw [if_neg z0, if_neg z2, if_neg z2, nI_clamp (by omega), if_pos cz]
      · unfold r_X9_back
        rw [e, if_neg n10, nI_clamp (by omega), ← x8a, if_pos cz]
    · have e357 : σ.2 357 (nI b).toNatClampNeg - 1 = 394 + 25 * b := by
        rw [nI_clamp (by omega), a9.1 b hb]
        rfl
      have e2 : u_X1_startFrom_2 (394 + 25 * b) N σ = zuI (zuI σ 30 1 (nI 0)) 30 2 (nI 0) := rfl
      obtain ⟨h1, h2, h3, h4, h5, h6, h7, h8, h9, h10, h11, h12⟩ := a7
      obtain ⟨c, cc1, cc2⟩ := h6 0 (by omega)
      have n5 := now_ok (σ := zuI (zuI σ 30 1 (nI 0)) 30 2 (nI 0)) (r := rg 0) (show 0 < 13 by omega) (by rw [gI_n (by omega), gI_h rfl rfl]) (h8 0 (by omega)) (Rly.self (Rly.hist (h6 0 (by omega))))
      have rb : RW q1 B W n K L F H tf gv U (394 + 25 * b) (zuI (zuI σ 30 1 (nI 0)) 30 2 (nI 0)) (tw τ 499 (11440 * b)) := (x8b cz).sig (fun q j z => by rw [gI_n (by omega), gI_n (by omega)]) (fun q j z1 z2 => rfl)
      obtain ⟨c1, c2, c3, c4⟩ := rb.cop (N := N) (r := rg 0) (by omega) (Rly.hist (h6 0 (by omega))) (by omega) (by omega) (h9 0 (by omega))
      obtain ⟨w, hw⟩ : ∃ w, N = w + 11441 := ⟨N - 11441, by omega⟩
      obtain ⟨τ1, i1, i2, i3, i4, i5⟩ := rw_back (N := N) hb 11440 0 τ (Nat.zero_add _) N w (by omega)
      have em : u_X9_back_h0_2 N (nI b) (nI 11440) τ1 = zuI (zuI τ1 468 55 0) 468 56 0 := rfl
      rw [em] at i1
      have eu : u_X8_back_1 (nI b) N σ = s_X4_copyFrom (rg 0) (394 + 25 * b) N (zuI (zuI σ 30 1 (nI 0)) 30 2 (nI 0)) := by
        unfold u_X8_back_1 s_X1_startFrom u_X1_startFrom_3
        rw [e357, e2, n5.1]
      generalize hσ1 : s_X4_copyFrom (rg 0) (394 + 25 * b) N (zuI (zuI σ 30 1 (nI 0)) 30 2 (nI 0)) = σ1 at c2 c3 c4 eu
      have fz : zfr 30 357 σ σ1 := ((zfr.rf.uI (by omega)).uI (by omega)).tr (c3.wk (by omega))
      have mo : ∀ q j, ¬ q = 469 → ¬ (q = 468 ∧ (j = 55 ∨ j = 56)) → (zuI (zuI τ1 468 55 0) 468 56 0).1 q j = τ.1 q j := fun q j y1 y2 => by rw [gI_n (by omega), gI_n (by omega), i4 _ _ (by omega)]
      have m469 : ∀ j, j < 11440 → (zuI (zuI τ1 468 55 0) 468 56 0).1 469 j = τ.1 499 (11440 * b + j) := fun j hj => by rw [gI_n (by omega), gI_n (by omega), i3 j (by omega) hj]
      have hh : HH q1 B W n K L F H tf gv U 0 0 rg σ1 (zuI (zuI τ1 468 55 0) 468 56 0) := by
        refine ⟨⟨Nat.le_refl _, by omega⟩, (c3.at (by omega)).trans (by rw [gI_n (by omega), gI_h rfl rfl]), (c3.at (by omega)).trans (gI_h rfl rfl), by rw [gI_n (by omega), gI_h rfl rfl]; rfl, by rw [gI_h rfl rfl]; rfl, h6, h7, fun i hi => (c3.at2 (by omega)).trans (h8 i hi), fun i hi v hv => ?_, c2.tau ?_ (fun q j z => ?_) (fun j hj => ?_), fun k hk => absurd hk (by omega), fun k k1 k2 => absurd k1 (by omega)⟩
        · by_cases ei : i = 0
          · rw [ei]
            exact c2.ptr v hv
          · have ap := rg_apart h6 h7 hi (show 0 < 13 by omega) ei
            rw [c3.at2 (by omega)]
            exact h9 i hi v hv
        · rw [tw_o (by decide)]; exact mo _ _ (by omega) (by omega)
        · rw [tw_o (by omega)]; exact mo _ _ (by omega) (by omega)
        · rw [tw_h]; exact m469 j hj
      have hin := h'.his (Nat.le_refl U) hh fz (fun q j z1 z2 z3 z4 => mo q j z1 (by omega))
      obtain ⟨A', D', RS', TP', ST', C', T', M', E', g1', g2', -, g3', -⟩ := hin.get
      have ec : r_X8_back (nI b) N σ = (σ1.1 (rg 0) 9, σ1) := by
        unfold r_X8_back
        rw [if_neg z0, if_neg z2, if_neg z2, nI_clamp (by omega), if_neg cz, eu, g1']
      have er : r_X9_back (nI b) N τ = ((zuI (zuI τ1 468 55 0) 468 56 0).1 469 0, zuI (zuI τ1 468 55 0) 468 56 0) := by
        unfold r_X9_back
        rw [e, if_neg n10, nI_clamp (by omega), ← x8a, if_neg cz]
        exact i1
      unfold PR2
      rw [ec, er]
      refine ⟨?_, fun _ => ⟨vp_in_nI hb (by decide), fun _ => i2 trivial⟩, ?_, ⟨q1, q2, B, W, n, K, L, F, H, tf, gv, 0, 0, rg, hin⟩, fz.wk (by omega), fun q hq1 => ⟨funext fun j => mo q j (by omega) (by omega), by show τ1.2 q = τ.2 q; rw [i5]⟩⟩
      · unfold p_X8_back p_X1_startFrom
        rw [eu, e357, e2, n5.1]
        exact fun _ _ _ => ⟨vp_in_nI hb (by decide), fun _ => ⟨⟨by rw [nI_clamp (by omega), a9.1 b hb]; omega, Rly.self (Rly.box hb)⟩, ⟨n5.2, c1⟩, g2'⟩⟩
      · show σ1.1 (rg 0) 9 = (zuI (zuI τ1 468 55 0) 468 56 0).1 469 0
        rw [g3'.2.2.1 _ 9 0 (lk_g (by omega)), g3'.2.2.2.2.2.2.1 0 (by omega)]
end IS
