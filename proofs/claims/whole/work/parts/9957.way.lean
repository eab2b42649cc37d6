/-! the line that tells the handler -/
section IS
variable {N nb q b : Nat} {tx : Nat → Nat} {σ σ1 σ2 τ τ1 τ2 : zS} {Z : Nat → Prop}
theorem LNb.eq {m s e kd v w : Nat} (h : LNb nb tx q b m s e kd v w σ τ) (h1 : ∀ Q j, (Q = 1 ∨ Q = 3 ∨ (Q = 2 ∧ 2 ≤ j ∧ j ≤ 4)) → σ1.1 Q j = σ.1 Q j) (h2 : σ1.2 = σ.2) (h3 : ∀ Q j, (Q = 485 ∨ Q = 486 ∨ (Q = 468 ∧ ((19 ≤ j ∧ j ≤ 26) ∨ j = 33))) → τ1.1 Q j = τ.1 Q j) : LNb nb tx q b m s e kd v w σ1 τ1 := by
  obtain ⟨a1, a2, ⟨a3, a4, a5⟩, a6, a7, ⟨a8, a9, a10⟩, a11, a12, a13⟩ := h
  exact ⟨a1.eq (fun Q j y => h1 _ _ (by omega)) (by rw [h2]), a2.eq (fun Q j y => h3 _ _ (by omega)), ⟨by rw [h2]; exact a3, a4, a5⟩, a6.eq (fun j _ _ => h1 _ _ (by omega)) (fun j _ _ => h3 _ _ (by omega)), (h3 _ _ (by omega)).trans a7, ⟨(h1 _ _ (by omega)).trans a8, (h3 _ _ (by omega)).trans a9, a10⟩, (h1 _ _ (by omega)).trans a11, (h1 _ _ (by omega)).trans a12, (h3 _ _ (by omega)).trans a13⟩
theorem st_next {m s e kd v w : Nat} (h : LNb nb tx q b m s e kd v w σ τ) (hN : 200000 < N) : p_X6_next N σ ∧ p_X9_scan N τ ∧ rfr sTC σ (s_X6_next N σ) ∧ rfr sTM τ (s_X9_scan N τ) ∧ ∃ s1 e1 kd1 v1 w1, LNb nb tx q b m s1 e1 kd1 v1 w1 (s_X6_next N σ) (s_X9_scan N τ) ∧ e ≤ s1 := by
  obtain ⟨a1, a2, ⟨a3, a4, a5⟩, a6, a7, ⟨a8, a9, a10⟩, a11, a12, a13⟩ := h
  obtain ⟨n1, n2, -, s1, e1, kd1, v1, w1, t1, t2, t3, t4, -⟩ := pr_next (N := N) (p := e) a1 a2 a6.2.2.2.2.2.2.2.1 a6.2.2.2.2.2.2.2.2.2.2.1 a6.2.1 (by omega)
  have cN : ∀ Q j, ¬ Q = 3 → (s_X6_next N σ).1 Q j = σ.1 Q j := fun Q j y => t2.2 _ _ (fun z => y z.1)
  have mN : ∀ Q j, ¬ (Q = 468 ∧ 20 ≤ j ∧ j ≤ 24) → (s_X9_scan N τ).1 Q j = τ.1 Q j := t3.2
  refine ⟨n1, n2, t2, t3, s1, e1, kd1, v1, w1, ⟨a1.eq (fun Q j y => ?_) ?_, a2.eq (fun Q j y => ?_), ⟨?_, a4, a5⟩, t1, ?_, ⟨?_, ?_, a10⟩, ?_, ?_, ?_⟩, t4⟩
  · rw [t2.2 _ _ (fun z => by unfold sTC at z; omega)]
  · rw [t2.1]
  · rw [mN _ _ (by omega)]
  · rw [t2.1]; exact a3
  · rw [mN _ _ (by omega)]; exact a7
  · rw [cN _ _ (by omega)]; exact a8
  · rw [mN _ _ (by omega)]; exact a9
  · rw [cN _ _ (by omega)]; exact a11
  · rw [cN _ _ (by omega)]; exact a12
  · rw [mN _ _ (by omega)]; exact a13
/-- what the handler's line tells -/
def WV (q b : Nat) (σ τ : zS) : Prop := ∃ y k, y ≤ 3 ∧ k ≤ 16 ∧ σ.1 q 1 = nI y ∧ τ.1 471 b = nI y ∧ σ.1 q 2 = nI k ∧ τ.1 472 b = nI k ∧ (y = 1 → 1 ≤ k ∧ k ≤ 8) ∧ (y = 3 → 1 ≤ k)
def Z12 (j : Nat) : Prop := j = 1 ∨ j = 2
theorem wy_fin {m s e kd v w y k z : Nat} (h : LNb nb tx q b m s e kd v w σ τ) (y3 : y ≤ 3) (k16 : k ≤ 16) (h5 : σ.1 2 5 = nI k) (h71 : τ.1 471 b = nI y) (h72 : τ.1 472 b = nI k) (c1 : y = 1 → 1 ≤ k ∧ k ≤ 8) (c3 : y = 3 → 1 ≤ k) (hN : 200000 < N) : q_X3_readHandler N (z + 1) 2 (nI (316 + y)) σ ∧ p_X9_need 59 N τ ∧ LIN nb tx q b m e Z12 (l_X3_readHandler N (z + 1) 2 (nI (316 + y)) σ) σ τ (s_X9_need 59 N τ) (WV q b) := by
  have q1 := h.2.2.1.1
  have q3 := h.2.2.1.2.1
  have er : σ.2 2 1 - 1 = q := by rw [q1]; rfl
  have nz : σ.2 2 1 ≠ 0 := by rw [q1]; omega
  have ev : (0 + nI (316 + y)) - 316 = nI y := by
    rcases (show y = 0 ∨ y = 1 ∨ y = 2 ∨ y = 3 by omega) with rfl | rfl | rfl | rfl <;> rfl
  have e1 : u_X3_readHandler_h2_1 N (nI (316 + y)) σ = zuI σ q 1 (nI y) := by
    unfold u_X3_readHandler_h2_1
    rw [er, ev]
  have e2 : u_X3_readHandler_h2_2 N (nI (316 + y)) σ = zuI (zuI σ q 1 (nI y)) q 2 (nI k) := by
    unfold u_X3_readHandler_h2_2
    rw [e1]
    show zuI (zuI σ q 1 (nI y)) (σ.2 2 1 - 1) 2 ((zuI σ q 1 (nI y)).1 2 5) = _
    rw [er, gI_n (by omega), h5]
  have h2 : LNb nb tx q b m s e kd v w (zuI (zuI σ q 1 (nI y)) q 2 (nI k)) τ := h.eq (fun Q j y => by rw [gI_n (by omega), gI_n (by omega)]) rfl (fun _ _ _ => rfl)
  obtain ⟨w1, w2, w3⟩ := st_sign (Z := Z12) (c := 59) h2 (by decide) hN
  have w1 : p_X3_readSign 59 N (zuI (zuI σ q 1 (nI y)) q 2 (nI k)) := w1
  have fc : rfr (sZ q Z12) σ (zuI (zuI σ q 1 (nI y)) q 2 (nI k)) := (rfr.rf.uI (Or.inr (Or.inr ⟨rfl, by omega, Or.inl rfl⟩))).uI (Or.inr (Or.inr ⟨rfl, by omega, Or.inr rfl⟩))
  have el : l_X3_readHandler N (z + 1) 2 (nI (316 + y)) σ = r_X3_readSign 59 N (zuI (zuI σ q 1 (nI y)) q 2 (nI k)) := by
    rw [l_X3_readHandler]
    unfold u_X3_readHandler_h2_3
    rw [e2]
  refine ⟨?_, w2, ?_⟩
  · rw [q_X3_readHandler, e1, e2]
    exact ⟨⟨nz, by rw [er]; exact ly_q q3⟩, ⟨nz, by show zlay (σ.2 2 1 - 1) = (2, 16); rw [er]; exact ly_q q3⟩, w1⟩
  · rw [el]
    rcases w3 with ⟨t1, t2, t3, t4⟩ | ⟨t1, t3, t4, s3, e3, kd3, v3, w3, g6, g7⟩
    · exact Or.inl ⟨t1, t2, fc.tr t3, t4⟩
    · have t3z : rfr sTC (zuI (zuI σ q 1 (nI y)) q 2 (nI k)) (r_X3_readSign 59 N (zuI (zuI σ q 1 (nI y)) q 2 (nI k))).2 := t3
      have t4z : rfr sTM τ (s_X9_need 59 N τ) := t4
      refine Or.inr ⟨t1, fc.tr t3z.zc, t4z.zm, ⟨y, k, y3, k16, ?_, ?_, ?_, ?_, c1, c3⟩, m, s3, e3, kd3, v3, w3, g6, g7, fun _ _ z => z⟩
      · rw [t3z.2 _ _ (fun z => by unfold sTC at z; omega), gI_n (by omega), gI_h rfl rfl]
      · rw [t4z.2 _ _ (fun z => by unfold sTM at z; omega)]; exact h71
      · rw [t3z.2 _ _ (fun z => by unfold sTC at z; omega), gI_h rfl rfl]
      · rw [t4z.2 _ _ (fun z => by unfold sTM at z; omega)]; exact h72
/-- LIN is composed -/
theorem LIN.pre {m m0 e e0 : Nat} {r : Int32 × zS} {V : zS → zS → Prop} (h : LIN nb tx q b m e Z r σ1 τ1 τ2 V) (fc : rfr (sZ q Z) σ σ1) (fm : rfr (sY b Z) τ τ1) (he : e0 ≤ e) (mo : MO m0 m) : LIN nb tx q b m0 e0 Z r σ τ τ2 V := by
  rcases h with ⟨a1, a2, a3, a4⟩ | ⟨a1, a2, a3, a4, m1, s1, e1, kd1, v1, w1, a5, a6, a7⟩
  · exact Or.inl ⟨a1, a2, fc.tr a3, fm.tr a4⟩
  · exact Or.inr ⟨a1, fc.tr a2, fm.tr a3, a4, m1, s1, e1, kd1, v1, w1, a5, by omega, fun k hk y => mo k hk (a7 k hk y)⟩
/-- the handler's word and number: the class -/
theorem wy_cls {m s e kd v w y : Nat} (h : LNb nb tx q b m s e kd v w σ τ) (y3 : y ≤ 3) (kk : kd = 316 + y) (h72 : τ.1 472 b = 0) (hN : 200000 < N) : q_X3_readHandler N N 0 (nI (316 + y)) σ ∧ q_X9_readWay N N 0 (nI b) (zuI τ 471 b (nI y)) ∧ p_X9_need 59 N (l_X9_readWay N N 0 (nI b) (zuI τ 471 b (nI y))) ∧ LIN nb tx q b m e Z12 (l_X3_readHandler N N 0 (nI (316 + y)) σ) σ τ (s_X9_need 59 N (l_X9_readWay N N 0 (nI b) (zuI τ 471 b (nI y)))) (WV q b) := by
  have n10 : ¬ (1 : Int32) = 0 := by decide
  have b2 := h.2.2.1.2.2
  have q3 := h.2.2.1.2.1
  have cb : (nI b).toNatClampNeg = b := nI_clamp (by omega)
  have vb : vp_in (nI b) 2 := vp_in_nI b2 (by decide)
  have z0 : (0 : Int32) ≤ 0 := by decide
  obtain ⟨N1, hN1⟩ : ∃ z, N = z + 1 + 1 + 1 := ⟨N - 3, by omega⟩
  have h1 : LNb nb tx q b m s e kd v w σ (zuI τ 471 b (nI y)) := h.eq (fun _ _ _ => rfl) rfl (fun Q j z => gI_n (by omega))
  obtain ⟨n1, n2, n3, n4, s1, e1, kd1, v1, w1, h2, h2e⟩ := st_next h1 hN
  have h25 := h1.2.2.2.2.1
  have mN : ∀ Q j, ¬ (Q = 468 ∧ 20 ≤ j ∧ j ≤ 24) → (s_X9_scan N (zuI τ 471 b (nI y))).1 Q j = (zuI τ 471 b (nI y)).1 Q j := n4.2
  have m71 : (s_X9_scan N (zuI τ 471 b (nI y))).1 471 b = nI y := by rw [mN _ _ (by omega)]; exact gI_h rfl rfl
  have m72 : (s_X9_scan N (zuI τ 471 b (nI y))).1 472 b = 0 := by rw [mN _ _ (by omega), gI_n (by omega)]; exact h72
  have h3 : LNb nb tx q b m s1 e1 kd1 v1 w1 (zuI (s_X6_next N σ) 2 5 0) (s_X9_scan N (zuI τ 471 b (nI y))) := h2.eq (fun Q j z => gI_n (by omega)) rfl (fun _ _ _ => rfl)
  have fC : rfr (sZ q Z12) σ (zuI (s_X6_next N σ) 2 5 0) := (rfr.zc n3).uI (Or.inr (Or.inl ⟨rfl, by omega, by omega⟩))
  have fM : rfr (sY b Z12) τ (s_X9_scan N (zuI τ 471 b (nI y))) := (rfr.rf.uI (Or.inr ⟨by omega, by omega, rfl, Or.inl rfl⟩)).tr (rfr.zm n4)
  have eu2 : u_X3_readHandler_h0_2 N (nI (316 + y)) σ = zuI (s_X6_next N σ) 2 5 0 := rfl
  have eu1 : u_X9_readWay_h0_1 N (nI b) (zuI τ 471 b (nI y)) = s_X9_scan N (zuI τ 471 b (nI y)) := rfl
  have mo : MO m m := fun _ _ z => z
  have eN : ∀ (x : Int32) (ρ : zS), l_X3_readHandler N N 0 x ρ = l_X3_readHandler N (N1 + 1 + 1 + 1) 0 x ρ := fun x ρ => by rw [← hN1]
  have eQ : ∀ (x : Int32) (ρ : zS), q_X3_readHandler N (N1 + 1 + 1 + 1) 0 x ρ → q_X3_readHandler N N 0 x ρ := fun x ρ y => by rw [hN1] at y ⊢; exact y
  have eW : ∀ (x : Int32) (ρ : zS), l_X9_readWay N N 0 x ρ = l_X9_readWay N (N1 + 1 + 1 + 1) 0 x ρ := fun x ρ => by rw [← hN1]
  have eV : ∀ (x : Int32) (ρ : zS), q_X9_readWay N (N1 + 1 + 1 + 1) 0 x ρ → q_X9_readWay N N 0 x ρ := fun x ρ y => by rw [hN1] at y ⊢; exact y
  rw [eN, eW]
  rcases (show y = 1 ∨ y = 3 ∨ y = 0 ∨ y = 2 by omega) with rfl | rfl | hy
  · -- fixed
    have k1 : nI (316 + 1) = 317 := rfl
    have k3 : ¬ nI (316 + 1) = 319 := by decide
    have j1 : nI 1 = 1 := rfl
    have j3 : ¬ nI 1 = 3 := by decide
    obtain ⟨z1, z2, z3⟩ := st_num (Z := Z12) (lo := 1) (hi := 8) h3 (by decide) (by decide) hN
    generalize hC : r_X3_readNumber (nI 1) (nI 8) N (zuI (s_X6_next N σ) 2 5 0) = C at *
    generalize hD : r_X9_numeral (nI 1) (nI 8) N (s_X9_scan N (zuI τ 471 b (nI 1))) = D at *
    have hC' : r_X3_readNumber 1 8 N (u_X3_readHandler_h0_2 N (nI (316 + 1)) σ) = C := hC
    have hD' : r_X9_numeral 1 8 N (u_X9_readWay_h0_1 N (nI b) (zuI τ 471 b (nI 1))) = D := hD
    have fD : rfr (sY b Z12) D.2 (zuI D.2 472 b D.1) := rfr.rf.uI (Or.inr ⟨by omega, by omega, rfl, Or.inr rfl⟩)
    have e3 : u_X9_readWay_h0_3 N (nI b) (zuI τ 471 b (nI 1)) = zuI D.2 472 b D.1 := by
      unfold u_X9_readWay_h0_3 u_X9_readWay_h0_2
      rw [hD', cb]
    have D71 : D.2.1 471 b = nI 1 := by
      have : rfr (sY b (fun _ => False)) (s_X9_scan N (zuI τ 471 b (nI 1))) D.2 := by
        have := (st_num (Z := fun _ => False) (lo := 1) (hi := 8) h3 (by decide) (by decide) hN).2.2
        rw [hC, hD] at this
        rcases this with y | y
        · exact y.2.2.2
        · exact y.2.2.1
      rw [this.2 _ _ (fun z => (show ((471 = 468 ∧ ((20 ≤ b ∧ b ≤ 26) ∨ b = 33)) ∨ (470 ≤ 471 ∧ 471 ≤ 475 ∧ b = b ∧ False)) from z).elim (fun z => by omega) (fun z => z.2.2.2))]
      exact m71
    have l0 : l_X9_readWay N (N1 + 1 + 1 + 1) 0 (nI b) (zuI τ 471 b (nI 1)) = zuI D.2 472 b D.1 := by
      rw [l_X9_readWay, h25, if_pos z0, eu1, cb, m71, if_pos j1, e3, l_X9_readWay, cb, gI_n (by omega), D71, if_neg j3]
    have q0 : q_X9_readWay N (N1 + 1 + 1 + 1) 0 (nI b) (zuI τ 471 b (nI 1)) := by
      rw [q_X9_readWay, eu1, cb, m71]
      refine fun _ => ⟨n2, vb, fun z => absurd j1 z, fun _ => ⟨z2, ?_⟩⟩
      rw [e3, q_X9_readWay, cb, gI_n (by omega), D71]
      exact ⟨vb, fun z => absurd z j3⟩
    rw [l0]
    rcases z3 with ⟨u1, u2, u3, u4⟩ | ⟨u1, u3, u4, x, l1, l2, u5, u6, s2, e2, kd2, v2, w2, g3, g4, -⟩
    · obtain ⟨c, p, c1, c2, c3, c4, c5, c6, c7⟩ := u2.set (Q := 472) (j := b) (x := D.1) (by omega)
      obtain ⟨d1, d2⟩ := rf_need_bad (N := N) (x := 59) c1 c2 c6
      rw [d2, l_X3_readHandler, if_pos k1, hC', if_pos u1]
      refine ⟨eQ _ _ ?_, eV _ _ q0, d1, Or.inl ⟨rfl, ⟨c, p, c1, c2, c3, ?_, ?_, c6, c7⟩, ?_, (fM.tr u4).tr fD⟩⟩
      · rw [q_X3_readHandler]
        exact ⟨n1, fun z => absurd k1 z, fun _ => ⟨z1, fun z => absurd (by rw [hC']; exact u1) z⟩⟩
      · unfold u_X3_readHandler_h0_3; rw [hC']; exact c4
      · unfold u_X3_readHandler_h0_3; rw [hC']; exact c5
      · unfold u_X3_readHandler_h0_3; rw [hC']; exact fC.tr u3
    · have u1n : ¬ C.1 = 0 := by rw [u1]; exact n10
      have g5 : LNb nb tx q b m s2 e2 kd2 v2 w2 C.2 (zuI D.2 472 b D.1) := g3.eq (fun _ _ _ => rfl) rfl (fun Q j z => gI_n (by omega))
      obtain ⟨w1', w2', w3'⟩ := wy_fin (y := 1) (k := x) (z := N1) g5 (by decide) (by omega) u5 (by rw [gI_n (by omega)]; exact D71) (by rw [gI_h rfl rfl, u6]) (fun _ => ⟨l1, l2⟩) (fun z => absurd z (by decide)) hN
      have e03 : u_X3_readHandler_h0_3 N (nI (316 + 1)) σ = C.2 := by
        unfold u_X3_readHandler_h0_3
        rw [hC']
      have lc : l_X3_readHandler N (N1 + 1 + 1 + 1) 0 (nI (316 + 1)) σ = l_X3_readHandler N (N1 + 1) 2 (nI (316 + 1)) C.2 := by
        rw [l_X3_readHandler, if_pos k1, hC', if_neg u1n, e03, l_X3_readHandler, if_neg k3]
      rw [lc]
      refine ⟨eQ _ _ ?_, eV _ _ q0, w2', w3'.pre (fC.tr u3) ((fM.tr u4).tr fD) ?_ mo⟩
      · rw [q_X3_readHandler]
        refine ⟨n1, fun z => absurd k1 z, fun _ => ⟨z1, fun _ => ?_⟩⟩
        rw [e03, q_X3_readHandler]
        exact ⟨fun _ => w1', fun z => absurd z k3⟩
      · have := h2.2.2.2.1.1
        have := g3.2.2.2.1.1
        omega
  · -- double
    have k1 : ¬ nI (316 + 3) = 317 := by decide
    have k3 : nI (316 + 3) = 319 := rfl
    have j1 : ¬ nI 3 = 1 := by decide
    have j3 : nI 3 = 3 := rfl
    obtain ⟨z1, z2, z3⟩ := st_num (Z := Z12) (lo := 1) (hi := 16) h3 (by decide) (by decide) hN
    have z3' := (st_num (Z := fun _ => False) (lo := 1) (hi := 16) h3 (by decide) (by decide) hN).2.2
    generalize hC : r_X3_readNumber (nI 1) (nI 16) N (zuI (s_X6_next N σ) 2 5 0) = C at *
    generalize hD : r_X9_numeral (nI 1) (nI 16) N (s_X9_scan N (zuI τ 471 b (nI 3))) = D at *
    have hC' : r_X3_readNumber 1 16 N (u_X3_readHandler_h0_2 N (nI (316 + 3)) σ) = C := hC
    have hD' : r_X9_numeral 1 16 N (s_X9_scan N (zuI τ 471 b (nI 3))) = D := hD
    have fD : rfr (sY b Z12) D.2 (zuI D.2 472 b D.1) := rfr.rf.uI (Or.inr ⟨by omega, by omega, rfl, Or.inr rfl⟩)
    have e3 : u_X9_readWay_h1_2 N (nI b) (s_X9_scan N (zuI τ 471 b (nI 3))) = zuI D.2 472 b D.1 := by
      unfold u_X9_readWay_h1_2 u_X9_readWay_h1_1
      rw [hD', cb]
    have D71 : D.2.1 471 b = nI 3 := by
      have : rfr (sY b (fun _ => False)) (s_X9_scan N (zuI τ 471 b (nI 3))) D.2 := by
        rcases z3' with y | y
        · exact y.2.2.2
        · exact y.2.2.1
      rw [this.2 _ _ (fun z => (show ((471 = 468 ∧ ((20 ≤ b ∧ b ≤ 26) ∨ b = 33)) ∨ (470 ≤ 471 ∧ 471 ≤ 475 ∧ b = b ∧ False)) from z).elim (fun z => by omega) (fun z => z.2.2.2))]
      exact m71
    have l0 : l_X9_readWay N (N1 + 1 + 1 + 1) 0 (nI b) (zuI τ 471 b (nI 3)) = zuI D.2 472 b D.1 := by
      rw [l_X9_readWay, h25, if_pos z0, eu1, cb, m71, if_neg j1, l_X9_readWay, cb, m71, if_pos j3, e3]
    have q0 : q_X9_readWay N (N1 + 1 + 1 + 1) 0 (nI b) (zuI τ 471 b (nI 3)) := by
      rw [q_X9_readWay, eu1, cb, m71]
      refine fun _ => ⟨n2, vb, fun _ => ?_, fun z => absurd z j1⟩
      rw [q_X9_readWay, cb, m71]
      exact ⟨vb, fun _ => z2⟩
    rw [l0]
    have lc0 : l_X3_readHandler N (N1 + 1 + 1 + 1) 0 (nI (316 + 3)) σ = (if C.1 = 0 then (0, C.2) else l_X3_readHandler N (N1 + 1) 2 (nI (316 + 3)) C.2) := by
      rw [l_X3_readHandler, if_neg k1, l_X3_readHandler, if_pos k3, hC']
      unfold u_X3_readHandler_h1_1
      rw [hC']
    rw [lc0]
    rcases z3 with ⟨u1, u2, u3, u4⟩ | ⟨u1, u3, u4, x, l1, l2, u5, u6, s2, e2, kd2, v2, w2, g3, g4, -⟩
    · obtain ⟨c, p, c1, c2, c3, c4, c5, c6, c7⟩ := u2.set (Q := 472) (j := b) (x := D.1) (by omega)
      obtain ⟨d1, d2⟩ := rf_need_bad (N := N) (x := 59) c1 c2 c6
      rw [d2, if_pos u1]
      refine ⟨eQ _ _ ?_, eV _ _ q0, d1, Or.inl ⟨rfl, ⟨c, p, c1, c2, c3, c4, c5, c6, c7⟩, fC.tr u3, (fM.tr u4).tr fD⟩⟩
      rw [q_X3_readHandler]
      refine ⟨n1, fun _ => ?_, fun z => absurd z k1⟩
      rw [q_X3_readHandler]
      exact ⟨fun z => absurd k3 z, fun _ => ⟨z1, fun z => absurd (by rw [hC']; exact u1) z⟩⟩
    · have u1n : ¬ C.1 = 0 := by rw [u1]; exact n10
      have g5 : LNb nb tx q b m s2 e2 kd2 v2 w2 C.2 (zuI D.2 472 b D.1) := g3.eq (fun _ _ _ => rfl) rfl (fun Q j z => gI_n (by omega))
      obtain ⟨w1', w2', w3'⟩ := wy_fin (y := 3) (k := x) (z := N1) g5 (by decide) (by omega) u5 (by rw [gI_n (by omega)]; exact D71) (by rw [gI_h rfl rfl, u6]) (fun z => absurd z (by decide)) (fun _ => l1) hN
      rw [if_neg u1n]
      refine ⟨eQ _ _ ?_, eV _ _ q0, w2', w3'.pre (fC.tr u3) ((fM.tr u4).tr fD) ?_ mo⟩
      · rw [q_X3_readHandler]
        refine ⟨n1, fun _ => ?_, fun z => absurd z k1⟩
        rw [q_X3_readHandler]
        refine ⟨fun z => absurd k3 z, fun _ => ⟨z1, fun _ => ?_⟩⟩
        unfold u_X3_readHandler_h1_1
        rw [hC']
        exact w1'
      · have := h2.2.2.2.1.1
        have := g3.2.2.2.1.1
        omega
  · -- single, counter
    have k1 : ¬ nI (316 + y) = 317 := by rcases hy with rfl | rfl <;> decide
    have k3 : ¬ nI (316 + y) = 319 := by rcases hy with rfl | rfl <;> decide
    have j1 : ¬ nI y = 1 := by rcases hy with rfl | rfl <;> decide
    have j3 : ¬ nI y = 3 := by rcases hy with rfl | rfl <;> decide
    have l0 : l_X9_readWay N (N1 + 1 + 1 + 1) 0 (nI b) (zuI τ 471 b (nI y)) = s_X9_scan N (zuI τ 471 b (nI y)) := by
      rw [l_X9_readWay, h25, if_pos z0, eu1, cb, m71, if_neg j1, l_X9_readWay, cb, m71, if_neg j3]
    have q0 : q_X9_readWay N (N1 + 1 + 1 + 1) 0 (nI b) (zuI τ 471 b (nI y)) := by
      rw [q_X9_readWay, eu1, cb, m71]
      refine fun _ => ⟨n2, vb, fun _ => ?_, fun z => absurd z j1⟩
      rw [q_X9_readWay, cb, m71]
      exact ⟨vb, fun z => absurd z j3⟩
    have lc : l_X3_readHandler N (N1 + 1 + 1 + 1) 0 (nI (316 + y)) σ = l_X3_readHandler N (N1 + 1) 2 (nI (316 + y)) (zuI (s_X6_next N σ) 2 5 0) := by
      rw [l_X3_readHandler, if_neg k1, eu2, l_X3_readHandler, if_neg k3]
    obtain ⟨w1', w2', w3'⟩ := wy_fin (y := y) (k := 0) (z := N1) h3 y3 (by omega) (gI_h rfl rfl) m71 m72 (fun z => by omega) (fun z => by omega) hN
    rw [l0, lc]
    refine ⟨eQ _ _ ?_, eV _ _ q0, w2', w3'.pre fC fM ?_ mo⟩
    · rw [q_X3_readHandler]
      refine ⟨n1, fun _ => ?_, fun z => absurd z k1⟩
      rw [eu2, q_X3_readHandler]
      exact ⟨fun _ => w1', fun z => absurd z k3⟩
    · have := h2.2.2.2.1.1
      omega
end IS
