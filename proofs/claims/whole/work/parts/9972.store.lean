/-! store -/
section IS
variable {q1 q2 B W n L F U U1 r p l N nb q b : Nat} {tx : Nat → Nat} {K : aK} {H tf rg : Nat → Nat} {gv : Nat → Nat → Int32} {σ σ1 σ2 τ τ1 τ2 : zS}
theorem LHD.pk {s e kd v w : Nat} (h : LHD nb tx q b s e kd v w σ τ) (hs : ∀ Q j, q ≤ Q → Q ≤ q + 6 → σ1.1 Q j = σ.1 Q j) (ht : ∀ Q j, 470 ≤ Q → Q ≤ 484 → τ1.1 Q j = τ.1 Q j) (h16 : τ1.1 468 16 = nI b) : ∃ (W n : Nat) (K : aK) (L F : Nat) (H tf : Nat → Nat) (gv : Nat → Nat → Int32), PH σ1 q τ1 b W n F ∧ PK σ1 q τ1 b K L F H n tf gv := by
  obtain ⟨m, nf, fa, fl, K, H, L, u, n, tf, gv, h1, ⟨f1, ⟨f2, f3⟩, ⟨f4, f5, f6⟩, ⟨f7, f8⟩, ⟨f9, f10⟩, f11, f12, f13⟩, h3, ⟨⟨W, w1, w2, w3, w4⟩, ⟨y, k, y1, y2, y3, y4, y5, y6, y7⟩, ⟨z, z1, z2, z3, z4⟩, ⟨a, c, c1, c2, c3, c4, c5, c6⟩⟩, h5, ⟨⟨k1, k2, k3⟩, k4, -⟩⟩ := h
  have b2 := h1.2.2.1.2.2
  have nf6 := f1.1
  have hs0 : ∀ j, σ1.1 q j = σ.1 q j := fun j => hs _ _ (by omega) (by omega)
  have ht0 : ∀ Q, 470 ≤ Q → Q ≤ 484 → τ1.1 Q b = τ.1 Q b := fun Q => ht Q b
  refine ⟨W, n, K, L, nf, H, tf, gv, ⟨⟨w1, w2⟩, b2, (hs0 _).trans w3, (ht0 _ (by omega) (by omega)).trans w4, ⟨y, k, y1, y2, (hs0 _).trans y3, (ht0 _ (by omega) (by omega)).trans y4, (hs0 _).trans y5, (ht0 _ (by omega) (by omega)).trans y6, y7⟩, ⟨z, z1, z2, (hs0 _).trans z3, (ht0 _ (by omega) (by omega)).trans z4⟩, ⟨a, c, c1, c2, (hs0 _).trans c3, (ht0 _ (by omega) (by omega)).trans c4, (hs0 _).trans c5, (ht0 _ (by omega) (by omega)).trans c6⟩, (hs0 _).trans f2, (ht0 _ (by omega) (by omega)).trans f3, (hs0 _).trans k1, (ht0 _ (by omega) (by omega)).trans k2, by rw [hs0, ht0 _ (by omega) (by omega), f4, f5]⟩, ⟨⟨by omega, nf6, fun f hf => ⟨(f12 f hf).1, (f12 f hf).2.1, (f12 f hf).2.2.1⟩, f13⟩, ⟨fun i hi => ⟨(hs _ _ (by omega) (by omega)).trans (f7 i hi).1, (hs _ _ (by omega) (by omega)).trans (f7 i hi).2⟩, fun f hf => ⟨(hs _ _ (by omega) (by omega)).trans (f12 f hf).2.2.2.1, (hs _ _ (by omega) (by omega)).trans (f12 f hf).2.2.2.2.2.1⟩⟩, ⟨b2, h16, fun i hi => ⟨(ht _ _ (by omega) (by omega)).trans (f9 i hi).1, (ht _ _ (by omega) (by omega)).trans (f9 i hi).2⟩, fun f hf => ⟨(ht _ _ (by omega) (by omega)).trans (f12 f hf).2.2.2.2.1, (ht _ _ (by omega) (by omega)).trans (f12 f hf).2.2.2.2.2.2⟩⟩, k3, fun t ht1 => ⟨(k4 t ht1).1, (hs _ _ (by omega) (by omega)).trans (k4 t ht1).2.1, (ht _ _ (by omega) (by omega)).trans (k4 t ht1).2.2.1, fun i hi => ⟨(hs _ _ (by omega) (by omega)).trans ((k4 t ht1).2.2.2 i hi).1, (ht _ _ (by omega) (by omega)).trans ((k4 t ht1).2.2.2 i hi).2⟩⟩⟩⟩
theorem bx_loop {v1 : Int32} {a2 : Nat} (hN : 10 < N) (h5 : σ.2 0 5 ≠ 0 ∧ zlay (σ.2 0 5 - 1) = (2, 16)) : q_X8_store N N v1 a2 0 σ ∧ l_X8_store N N v1 a2 0 σ = ((zuI (zuI σ 358 0 0) 358 1 0).1 (σ.2 0 5 - 1) 7, zuI (zuI σ 358 0 0) 358 1 0) := by
  have g0 : ¬ (2 : Int32) ≤ 0 := by decide
  have g1 : ¬ (2 : Int32) ≤ 0 + 1 := by decide
  have g2 : (2 : Int32) ≤ 0 + 1 + 1 := by decide
  have e1 : u_X8_store_h0_1 N v1 a2 0 σ = zuI σ 358 0 0 := by
    unfold u_X8_store_h0_1
    rw [nar0]
    rfl
  have e2 : u_X8_store_h0_1 N v1 a2 (0 + 1) (zuI σ 358 0 0) = zuI (zuI σ 358 0 0) 358 1 0 := by
    unfold u_X8_store_h0_1
    rw [nar0]
    rfl
  have k : ∀ z, q_X8_store N (z + 1 + 1 + 1) v1 a2 0 σ ∧ l_X8_store N (z + 1 + 1 + 1) v1 a2 0 σ = ((zuI (zuI σ 358 0 0) 358 1 0).1 (σ.2 0 5 - 1) 7, zuI (zuI σ 358 0 0) 358 1 0) := fun z => by
    rw [l_X8_store, if_neg g0, e1, l_X8_store, if_neg g1, e2, l_X8_store, if_pos g2]
    refine ⟨?_, rfl⟩
    rw [q_X8_store, e1]
    refine ⟨fun y => absurd y g0, fun _ => ⟨vp_in_nI (n := 0) (by decide) (by decide), ?_⟩⟩
    rw [q_X8_store, e2]
    refine ⟨fun y => absurd y g1, fun _ => ⟨vp_in_nI (n := 1) (by decide) (by decide), ?_⟩⟩
    rw [q_X8_store]
    exact ⟨fun _ => h5, fun y => absurd g2 y⟩
  obtain ⟨z, hz⟩ : ∃ z, N = z + 1 + 1 + 1 := ⟨N - 3, by omega⟩
  have := k z
  rw [← hz] at this
  exact this
theorem slm_no {Q j : Nat} (hB : B < 2) (hb : b = 1 - B) (h : Q < 468 ∨ Q = 469 ∨ Q = 485 ∨ Q = 486 ∨ 492 ≤ Q ∨ bkB B Q j ∨ (Q = 468 ∧ (j ≤ 19 ∨ 40 ≤ j))) : ¬ sLm b Q j := fun z => by
  unfold bkB at h
  unfold sLm sDm sBm sLa at z
  omega
theorem bk_o {Q j : Nat} (hB : B < 2) (hb : b = 1 - B) (h : bkB B Q j) : ¬ (470 ≤ Q ∧ Q ≤ 479 ∧ j = b) := fun z => by
  unfold bkB at h
  omega
theorem pr_store (h : Inv U σ τ) (hN : 200000 < N) : PR2 U (p_X8_store N σ) (p_X9_store N τ) (r_X8_store N σ) (r_X9_store N τ) σ τ := by
  obtain ⟨q1, q2, B, W, n, K, L, F, H, tf, gv, p, l, rg, h⟩ := h
  have hI := h
  have n10 : ¬ (1 : Int32) = 0 := by decide
  obtain ⟨a1, a2, a3, a4, a5, a6, a7, a8, a9, ⟨nt, t1, t2, t3, t4⟩, a11, a12⟩ := h
  have hB := a5.2.1
  obtain ⟨b, hb⟩ : ∃ b, b = 1 - B := ⟨_, rfl⟩
  have b2 : b < 2 := by omega
  have eb : (1 : Int32) - τ.1 468 16 = nI b := by
    rw [a4, hb]
    rcases (show B = 0 ∨ B = 1 by omega) with rfl | rfl <;> decide
  have q3 : q2 = 16 ∨ q2 = 23 := by omega
  have q31 : q1 = 16 ∨ q1 = 23 := by omega
  have e06 : σ.2 0 6 - 1 = q2 := by rw [a3]; rfl
  have hx : ∀ i, ∃ x, i < nt → x < 256 ∧ σ.1 1 i = nI x ∧ τ.1 485 i = sgnB x := fun i => by
    by_cases c : i < nt
    · obtain ⟨x, x1⟩ := t4 i c
      exact ⟨x, fun _ => x1⟩
    · exact ⟨0, fun y => absurd y c⟩
  obtain ⟨tx, htx⟩ := Classical.axiomOfChoice hx
  obtain ⟨p1, p2, p3, ⟨s, e, kd, v, w, hh⟩, c1, c2, m1, m2, m18⟩ := st_head q3 b2 t1 htx a12 t3 hN
  obtain ⟨x1, x2, x3, x4, x5⟩ := rd_loop (q1 := q2) (n2 := 1000) (q2 := 1) (v3 := nI nt) hN nt s e kd v w 0 _ _ hh (by omega) (by omega) N N (by omega) (by omega)
  have e7 : u_X3_readStore_7 q2 1000 1 (nI nt) N σ = s_X6_next N (bgC q2 nt N σ) := by
    rw [← bgc_eq t1]
    rfl
  have eR : r_X3_readStore q2 1000 1 (nI nt) N σ = l_X3_readStore q2 1000 1 N N (nI nt) 1 (nI 0) (s_X6_next N (bgC q2 nt N σ)) := by
    rw [← e7]
    rfl
  have pC : p_X3_readStore q2 1000 1 (nI nt) N σ := by
    have e3 : (u_X3_readStore_1 q2 1000 1 (nI nt) N σ).2 2 1 = q2 + 1 := gR_hit
    have e1 : (u_X6_open_1 1000 1 (nI nt) N (u_X3_readStore_6 q2 1000 1 (nI nt) N σ)).2 3 0 = 2 := gR_hit
    unfold p_X3_readStore
    rw [e3, e7]
    refine ⟨by omega, ⟨by omega, lay_pr q3⟩, p1, ?_, x1⟩
    unfold p_X6_open
    rw [e1, bgc_eq t1]
    exact ⟨by decide, ⟨by decide, by decide⟩, p2⟩
  have em7 : u_X9_store_7 N τ = bgM b τ := by
    unfold u_X9_store_7
    rw [eb]
    exact bgm_eq b2
  have eM : u_X9_store_8 N τ = l_X9_readAll N N (nI b) (s_X9_scan N (bgM b τ)) := by
    unfold u_X9_store_8
    rw [em7, eb]
    rfl
  have pM : p_X9_readAll (nI b) N (bgM b τ) := ⟨p3, x2⟩
  have e1 : u_X8_store_1 N σ = (r_X3_readStore q2 1000 1 (nI nt) N σ).2 := by
    unfold u_X8_store_1
    rw [e06, t2]
  have e4 : u_X8_store_4 N σ = zuI (zuI (zuI (r_X3_readStore q2 1000 1 (nI nt) N σ).2 0 1 0) 0 3 ((r_X3_readStore q2 1000 1 (nI nt) N σ).2.1 2 2)) 0 4 ((r_X3_readStore q2 1000 1 (nI nt) N σ).2.1 2 3) := by
    unfold u_X8_store_4 u_X8_store_3 u_X8_store_2
    rw [e1]
    rw [gI_n (by omega), gI_n (by omega), gI_n (by omega)]
  have e10 : u_X9_store_10 N τ = zuI (zuI (u_X9_store_8 N τ) 468 27 ((u_X9_store_8 N τ).1 468 25)) 468 28 ((u_X9_store_8 N τ).1 468 26) := by
    unfold u_X9_store_10 u_X9_store_9
    rw [gI_n (by omega)]
  have pcl : p_X9_clearBank (nI b) (u_X9_store_6 N τ) := vp_in_nI b2 (by decide)
  rw [eR] at e4
  rw [eM] at e10
  generalize hR : l_X3_readStore q2 1000 1 N N (nI nt) 1 (nI 0) (s_X6_next N (bgC q2 nt N σ)) = R at *
  generalize hS : l_X9_readAll N N (nI b) (s_X9_scan N (bgM b τ)) = S at *
  have e27 : (u_X9_store_10 N τ).1 468 27 = S.1 468 25 := by rw [e10, gI_n (by omega), gI_h rfl rfl]
  have cR : ∀ Q j, ¬ Q = 2 → ¬ Q = 3 → ¬ (12 ≤ Q ∧ Q ≤ 15) → ¬ (q2 ≤ Q ∧ Q ≤ q2 + 6) → R.2.1 Q j = σ.1 Q j := fun Q j y1 y2 y3 y4 => (x3.2 _ _ (fun z => by unfold sLc at z; omega)).trans (c1 _ _ y1 y2 y4)
  have cR2 : ∀ Q j, ¬ Q = 2 → ¬ Q = 3 → R.2.2 Q j = σ.2 Q j := fun Q j y1 y2 => by
    rw [x3.1]
    exact c2 _ _ y1 y2
  have mS : ∀ Q j, (Q < 468 ∨ Q = 469 ∨ Q = 485 ∨ Q = 486 ∨ 492 ≤ Q ∨ bkB B Q j ∨ (Q = 468 ∧ (j ≤ 17 ∨ 40 ≤ j))) → S.1 Q j = τ.1 Q j := fun Q j y => by
    refine (x4.2 _ _ (slm_no hB hb ?_)).trans (m1 _ _ ?_ ?_)
    · rcases y with y | y | y | y | y | y | y
      · exact Or.inl y
      · exact Or.inr (Or.inl y)
      · exact Or.inr (Or.inr (Or.inl y))
      · exact Or.inr (Or.inr (Or.inr (Or.inl y)))
      · exact Or.inr (Or.inr (Or.inr (Or.inr (Or.inl y))))
      · exact Or.inr (Or.inr (Or.inr (Or.inr (Or.inr (Or.inl y)))))
      · exact Or.inr (Or.inr (Or.inr (Or.inr (Or.inr (Or.inr ⟨y.1, by omega⟩)))))
    · rcases y with y | y | y | y | y | y | y
      · omega
      · omega
      · omega
      · omega
      · omega
      · have := bk_n y
        omega
      · omega
    · rcases y with y | y | y | y | y | y | y
      · omega
      · omega
      · omega
      · omega
      · omega
      · exact bk_o hB hb y
      · omega
  have mS2 : S.2 = τ.2 := x4.1.trans m2
  have S18 : S.1 468 18 = 0 := (x4.2 _ _ (slm_no hB hb (Or.inr (Or.inr (Or.inr (Or.inr (Or.inr (Or.inr ⟨rfl, by omega⟩)))))))).trans m18
  clear x1 x2 x3 x4 c1 c2 m1 m2 m18 hh p1 p2 p3
  rcases x5 with ⟨f0, c, pp, f1, f2, f3, f4, f5, f6, f7⟩ | ⟨f0, s1, e1', v1, w1, hh⟩
  · -- refused
    have nz : ¬ (u_X9_store_10 N τ).1 468 27 ≤ 0 := by
      rw [e27, f6]
      exact nI_ge (a := 0) (by omega) (by omega)
    refine ⟨?_, ?_, ?_, ?_, ?_, ?_⟩
    · unfold p_X8_store
      rw [e06, t2, eR]
      exact ⟨⟨by rw [a3]; omega, lay_pr q3⟩, pC, fun y => absurd f0 y⟩
    · unfold p_X9_store
      rw [eb, em7]
      exact ⟨pcl, pM, fun y => absurd y nz⟩
    · unfold r_X8_store r_X9_store
      rw [e06, t2, eR, if_pos f0, if_neg nz]
    · unfold r_X8_store r_X9_store
      rw [e06, t2, eR, if_pos f0, if_neg nz]
      refine ⟨q1, q2, B, W, n, K, L, F, H, tf, gv, p, l, rg, hI.off (fun Q j y0 y1 y2 y3 y4 => ?_) (fun Q j y1 y2 => ?_) (fun Q j y => ?_) ⟨0, by omega, ?_, ?_, fun i hi => absurd hi (by omega)⟩ ⟨?_, ?_⟩⟩
      · show (u_X8_store_4 N σ).1 Q j = _
        rw [e4, gI_n (by omega), gI_n (by omega), gI_n (by omega)]
        exact cR _ _ y1 y2 y3 y4
      · show (u_X8_store_4 N σ).2 Q j = _
        rw [e4]
        exact cR2 _ _ y1 y2
      · show (u_X9_store_10 N τ).1 Q j = _
        have : ¬ (Q = 468 ∧ (j = 27 ∨ j = 28)) := by
          rcases y with y | y | y | y | y
          · omega
          · omega
          · omega
          · have := bk_n y
            omega
          · omega
        rw [e10, gI_n (by omega), gI_n (by omega)]
        refine mS _ _ ?_
        rcases y with y | y | y | y | y
        · exact Or.inr (Or.inl y)
        · exact Or.inr (Or.inr (Or.inr (Or.inl y)))
        · exact Or.inr (Or.inr (Or.inr (Or.inr (Or.inl y))))
        · exact Or.inr (Or.inr (Or.inr (Or.inr (Or.inr (Or.inl y)))))
        · exact Or.inr (Or.inr (Or.inr (Or.inr (Or.inr (Or.inr ⟨y.1, by omega⟩)))))
      · show (u_X8_store_4 N σ).1 0 1 = _
        rw [e4, gI_n (by omega), gI_n (by omega), gI_h rfl rfl]
        rfl
      · show (u_X9_store_10 N τ).1 468 18 = _
        rw [e10, gI_n (by omega), gI_n (by omega), S18]
        rfl
      · show (u_X8_store_4 N σ).1 0 3 = (u_X9_store_10 N τ).1 468 27
        rw [e27, e4, gI_n (by omega), gI_h rfl rfl, f4, f6]
      · show (u_X8_store_4 N σ).1 0 4 = (u_X9_store_10 N τ).1 468 28
        rw [e10, e4, gI_h rfl rfl, gI_h rfl rfl, f5, f7]
    · unfold r_X8_store
      rw [e06, t2, eR, if_pos f0]
      show zfr 0 468 σ (u_X8_store_4 N σ)
      rw [e4]
      exact fun Q hQ => ⟨funext fun j => by rw [gI_n (by omega), gI_n (by omega), gI_n (by omega)]; exact cR _ _ (by omega) (by omega) (by omega) (by omega), funext fun j => cR2 _ _ (by omega) (by omega)⟩
    · unfold r_X9_store
      rw [if_neg nz]
      show zfr 468 501 τ (u_X9_store_10 N τ)
      rw [e10]
      exact fun Q hQ => ⟨funext fun j => by rw [gI_n (by omega), gI_n (by omega)]; exact mS _ _ (by omega), by show S.2 Q = _; rw [mS2]⟩
  · -- taken
    have hL := hh
    obtain ⟨m', nf', fa', fl', K', H', L', u', n', tf', gv', g1, -⟩ := hL
    have g25 : S.1 468 25 = 0 := g1.2.2.2.2.1
    have g26 : S.1 468 26 = -1 := g1.2.2.2.2.2.2.2.2
    have g22 : R.2.1 2 2 = 0 := g1.2.2.2.2.2.2.1
    have g23 : R.2.1 2 3 = -1 := g1.2.2.2.2.2.2.2.1
    clear g1
    have f0n : ¬ R.1 = 0 := by rw [f0]; exact n10
    have z0 : (u_X9_store_10 N τ).1 468 27 ≤ 0 := by
      rw [e27, g25]
      decide
    obtain ⟨h1, h2, h3, h4, h5, h6, h7, h8, h9, -⟩ := a7
    obtain ⟨c, cc1, cc2⟩ := h6 0 (by omega)
    have r46 : (u_X8_store_4 N σ).2 0 6 = q2 + 1 := by
      rw [e4]
      exact (cR2 _ _ (by omega) (by omega)).trans a3
    have r45 : (u_X8_store_4 N σ).2 0 5 = q1 + 1 := by
      rw [e4]
      exact (cR2 _ _ (by omega) (by omega)).trans a2
    have e5 : u_X8_store_6 N σ = zuR (zuR (u_X8_store_4 N σ) 0 5 (q2 + 1)) 0 6 (q1 + 1) := by
      unfold u_X8_store_6 u_X8_store_5
      rw [r46, r45]
      rfl
    have r65 : (u_X8_store_6 N σ).2 0 5 = q2 + 1 := by
      rw [e5, gR_k (by omega)]
      exact gR_hit
    have r66 : (u_X8_store_6 N σ).2 0 6 = q1 + 1 := by
      rw [e5]
      exact gR_hit
    have rO6 : ∀ Q j, ¬ Q = 0 → ¬ Q = 2 → ¬ Q = 3 → (u_X8_store_6 N σ).2 Q j = σ.2 Q j := fun Q j y0 y1 y2 => by
      rw [e5, gR_a y0, gR_a y0, e4]
      exact cR2 _ _ y1 y2
    have iO6 : ∀ Q j, ¬ Q = 0 → (u_X8_store_6 N σ).1 Q j = R.2.1 Q j := fun Q j y0 => by
      rw [e5]
      show (u_X8_store_4 N σ).1 Q j = _
      rw [e4, gI_n (by omega), gI_n (by omega), gI_n (by omega)]
    have i61 : (u_X8_store_6 N σ).1 0 1 = 0 ∧ (u_X8_store_6 N σ).1 0 3 = 0 ∧ (u_X8_store_6 N σ).1 0 4 = -1 := by
      rw [e5]
      show (u_X8_store_4 N σ).1 0 1 = 0 ∧ (u_X8_store_4 N σ).1 0 3 = 0 ∧ (u_X8_store_4 N σ).1 0 4 = -1
      rw [e4, g22, g23]
      refine ⟨?_, ?_, ?_⟩
      all_goals ((repeat (first | refine Eq.trans (gI_h (by omega) (by omega)) ?_ | refine Eq.trans (gI_n (by omega)) ?_ | refine Eq.trans gR_1 ?_)) <;> (try rfl))
    generalize hG : u_X8_store_6 N σ = G at *
    have hnow : f_X1_now (zuI (zuI G 30 1 0) 30 2 0) = rg 0 ∧ p_X1_now (zuI (zuI G 30 1 0) 30 2 0) := now_ok (p := 0) (by omega) (by rw [gI_n (by omega), gI_h rfl rfl]; rfl) ((rO6 _ _ (by omega) (by omega) (by omega)).trans (h8 0 (by omega))) (Rly.self (Rly.hist (h6 0 (by omega))))
    have e7' : u_X8_store_7 N σ = s_X4_startAnew (rg 0) q2 N (zuI (zuI G 30 1 0) 30 2 0) := by
      unfold u_X8_store_7
      rw [hG, r65]
      show s_X4_startAnew (f_X1_now (zuI (zuI G 30 1 0) 30 2 0)) q2 N (zuI (zuI G 30 1 0) 30 2 0) = _
      rw [hnow.1]
    have e11 : u_X9_store_11 N τ = zuI (zuI (zuI S 468 27 0) 468 28 (-1)) 468 16 (nI b) := by
      unfold u_X9_store_11
      rw [e10, eb, g25, g26]
    have k16 : (u_X9_store_11 N τ).1 468 16 = nI b := by rw [e11, gI_h rfl rfl]
    have k27 : (u_X9_store_11 N τ).1 468 27 = 0 ∧ (u_X9_store_11 N τ).1 468 28 = -1 ∧ (u_X9_store_11 N τ).1 468 18 = 0 := by
      rw [e11]
      refine ⟨?_, ?_, ?_⟩
      · ((repeat (first | refine Eq.trans (gI_h (by omega) (by omega)) ?_ | refine Eq.trans (gI_n (by omega)) ?_ | refine Eq.trans gR_1 ?_)) <;> (try rfl))
      · ((repeat (first | refine Eq.trans (gI_h (by omega) (by omega)) ?_ | refine Eq.trans (gI_n (by omega)) ?_ | refine Eq.trans gR_1 ?_)) <;> (try rfl))
      · rw [gI_n (by omega), gI_n (by omega), gI_n (by omega)]; exact S18
    have kO : ∀ Q j, ¬ Q = 468 → (u_X9_store_11 N τ).1 Q j = S.1 Q j := fun Q j y => by rw [e11, gI_n (by omega), gI_n (by omega), gI_n (by omega)]
    have k2 : (u_X9_store_11 N τ).2 = τ.2 := by rw [e11]; exact mS2
    have e12 : u_X9_store_12 N τ = s_X9_startAnew N (u_X9_store_11 N τ) := rfl
    obtain ⟨W2, n2, K2, L2, F2, H2, tf2, gv2, hPH, hPK⟩ := hh.pk (σ1 := zuI (zuI G 30 1 0) 30 2 0) (τ1 := u_X9_store_11 N τ) (fun Q j y1 y2 => by rw [gI_n (by omega), gI_n (by omega)]; exact iO6 _ _ (by omega)) (fun Q j y1 y2 => kO _ _ (by omega)) k16
    have n24 := hPK.2.2.2.1
    have hpr : ∀ v, v < 4 → (zuI (zuI G 30 1 0) 30 2 0).2 (rg 0 + 4) v = rg 0 + 5 + 5 * v + 1 := fun v hv => (rO6 _ _ (by omega) (by omega) (by omega)).trans (h9 0 (by omega) v hv)
    obtain ⟨j1, j2, j3, j4⟩ := pr_anew (C := fun _ => (0, fun _ => 0, fun _ _ => 0, fun _ => 0, 0)) (N := N) (by omega) (Rly.hist (h6 0 (by omega))) (show q2 + 7 ≤ rg 0 ∨ rg 0 + 25 ≤ q2 by omega) hpr k16 hPH hPK
    obtain ⟨-, -, r3, r4, -, -, r7, r8, -, -, r11, r12, r13, r14, r15⟩ := rf_anew (N := N) (by omega) b2 k16 hPH.2.2.2.2.2.2.2.2.2.2.1 n24
    generalize hσ5 : s_X4_startAnew (rg 0) q2 N (zuI (zuI G 30 1 0) 30 2 0) = σ5 at *
    generalize hτ5 : s_X9_startAnew N (u_X9_store_11 N τ) = τ5 at *
    have q5 : σ5.2 0 5 = q2 + 1 := (j4.at2 (by omega)).trans r65
    have q6 : σ5.2 0 6 = q1 + 1 := (j4.at2 (by omega)).trans r66
    obtain ⟨bx1, bx2⟩ := bx_loop (N := N) (σ := σ5) (v1 := R.1) (a2 := (u_X8_store_4 N σ).2 0 5 - 1) (by omega) ⟨by omega, by rw [q5]; exact lay_pr q3⟩
    have eRes : r_X8_store N σ = ((zuI (zuI σ5 358 0 0) 358 1 0).1 q2 7, zuI (zuI σ5 358 0 0) 358 1 0) := by
      unfold r_X8_store
      rw [e06, t2, eR, if_neg f0n, e7', bx2, q5]
      rfl
    have eMes : r_X9_store N τ = (f_X9_many τ5, τ5) := by
      unfold r_X9_store
      rw [if_pos z0, e12]
    have s5 : ∀ Q j, ¬ (rg 0 ≤ Q ∧ Q < rg 0 + 25) → ¬ Q = 30 → σ5.1 Q j = G.1 Q j := fun Q j y1 y2 => by
      rw [j4.at (by omega), gI_n (by omega), gI_n (by omega)]
    have s5r : ∀ Q j, ¬ (rg 0 ≤ Q ∧ Q < rg 0 + 25) → σ5.2 Q j = G.2 Q j := fun Q j y1 => j4.at2 (by omega)
    have t16 : τ5.1 468 16 = nI b := (r14 _ _ (by omega) (by omega) (by omega)).trans k16
    have s8 : ∀ Q j, ¬ Q = 358 → (zuI (zuI σ5 358 0 0) 358 1 0).1 Q j = σ5.1 Q j := fun Q j y => by rw [gI_n (by omega), gI_n (by omega)]
    have hW : RW q2 b W2 n2 K2 L2 F2 H2 tf2 gv2 U (rg 0) (zuI (zuI σ5 358 0 0) 358 1 0) τ5 := by
      have g0 : RW q2 b W2 n2 K2 L2 F2 H2 tf2 gv2 U (rg 0) σ5 τ5 := by
        obtain ⟨-, -, -, -, -, ⟨ss, s1, s2, s3, s4⟩, ⟨aa, ab, ac, ad, ae, af, ag, ah⟩, -⟩ := hPH
        exact ⟨_, _, _, _, _, _, 0, 0, 0, j3, ⟨by omega, by omega, by omega, fun _ _ _ => rfl⟩, r3 0 (by omega), ⟨ss, s1, s2, r4.trans s4⟩, aa, ab, ac, ad, r7.trans af, r8.trans ah⟩
      exact g0.sig (fun Q j y => s8 _ _ (by omega)) (fun _ _ _ _ => rfl)
    have tO : ∀ Q j, ¬ Q = 469 → ¬ Q = 468 → ¬ Q = 500 → τ5.1 Q j = S.1 Q j := fun Q j y1 y2 y3 => (r14 _ _ y1 (by omega) y3).trans (kO _ _ y2)
    refine ⟨?_, ?_, ?_, ?_, ?_, ?_⟩
    · unfold p_X8_store
      rw [e06, t2, eR, hG]
      refine ⟨⟨by rw [a3]; omega, lay_pr q3⟩, pC, fun _ => ⟨⟨by rw [r45]; omega, by rw [r45]; exact lay_pr q31⟩, ⟨by rw [r46]; omega, by rw [r46]; exact lay_pr q3⟩, by rw [r46]; omega, by rw [r45]; omega, ⟨by rw [r65]; omega, by rw [r65]; exact lay_pr q3⟩, ?_, ?_⟩⟩
      · rw [r65]
        show p_X1_now (zuI (zuI G 30 1 0) 30 2 0) ∧ p_X4_startAnew (f_X1_now (zuI (zuI G 30 1 0) 30 2 0)) q2 N (zuI (zuI G 30 1 0) 30 2 0)
        rw [hnow.1]
        exact ⟨hnow.2, j1⟩
      · rw [e7']
        exact bx1
    · unfold p_X9_store
      rw [eb, em7]
      refine ⟨pcl, pM, fun _ => ⟨j2, ?_⟩⟩
      show vp_in ((u_X9_store_12 N τ).1 468 16) 2
      rw [e12, t16]
      exact vp_in_nI b2 (by decide)
    · rw [eRes, eMes]
      show (zuI (zuI σ5 358 0 0) 358 1 0).1 q2 7 = f_X9_many τ5
      unfold f_X9_many
      rw [t16, nI_clamp (by omega), s8 _ _ (by omega), j4.at (by omega), hPH.2.2.2.2.2.2.2.2.2.1, r14 _ _ (by omega) (by omega) (by omega), hPH.2.2.2.2.2.2.2.2.2.2.1]
    · rw [eRes, eMes]
      refine ⟨q2, q1, b, W2, n2, K2, L2, F2, H2, tf2, gv2, 0, 0, rg, by omega, q5, q6, t16, hPH.bnk (fun j => (s8 _ _ (by omega)).trans (j4.at (by omega))) (fun Q j y => r14 _ _ (by have := bk_n y; omega) (by have := bk_n y; omega) (by have := bk_n y; omega)), (hPK.bnk (t16.trans k16.symm) (fun Q j y => r14 _ _ (by have := bk_n y; omega) (by have := bk_n y; omega) (by have := bk_n y; omega))).eq (fun Q j y1 y2 => (s8 _ _ (by omega)).trans (j4.at (by omega))), ⟨⟨by omega, by omega⟩, ?_, ?_, r11, r12, h6, h7, fun i hi => ?_, fun i hi v hv => ?_, hW, fun k hk => absurd hk (by omega), fun k y1 y2 => absurd y1 (by omega)⟩, fun k hk => ⟨?_, fun y => absurd ?_ y⟩, ⟨fun k hk => ?_, fun v hv => ?_, fun k hk v hv => ?_, fun i hi => ⟨?_, ?_⟩, ?_⟩, ⟨0, by omega, ?_, ?_, fun i hi => absurd hi (by omega)⟩, ⟨?_, ?_⟩, fun i hi => ?_⟩
      · show (zuI (zuI σ5 358 0 0) 358 1 0).1 30 1 = nI 0
        rw [s8 _ _ (by omega), j4.at (by omega), gI_n (by omega), gI_h rfl rfl]
        rfl
      · show (zuI (zuI σ5 358 0 0) 358 1 0).1 30 2 = nI 0
        rw [s8 _ _ (by omega), j4.at (by omega), gI_h rfl rfl]
        rfl
      · exact (s5r _ _ (by omega)).trans ((rO6 _ _ (by omega) (by omega) (by omega)).trans (h8 i hi))
      · by_cases ci : i = 0
        · subst ci
          exact hW.ptr v hv
        · have := rg_apart h6 h7 hi (show 0 < 13 by omega) ci
          obtain ⟨d, d1, d2⟩ := h6 i hi
          exact (s5r _ _ (by omega)).trans ((rO6 _ _ (by omega) (by omega) (by omega)).trans (h9 i hi v hv))
      · show (zuI (zuI σ5 358 0 0) 358 1 0).1 358 k = τ5.1 500 k
        rw [r13 k hk]
        rcases (show k = 0 ∨ k = 1 by omega) with rfl | rfl
        · rw [gI_n (by omega), gI_h rfl rfl]
        · rw [gI_h rfl rfl]
      · show (zuI (zuI σ5 358 0 0) 358 1 0).1 358 k = 0
        rcases (show k = 0 ∨ k = 1 by omega) with rfl | rfl
        · rw [gI_n (by omega), gI_h rfl rfl]
        · rw [gI_h rfl rfl]
      · exact (s5r _ _ (by omega)).trans ((rO6 _ _ (by omega) (by omega) (by omega)).trans (a9.1 k hk))
      · exact (s5r _ _ (by omega)).trans ((rO6 _ _ (by omega) (by omega) (by omega)).trans (a9.2.1 v hv))
      · exact (s5r _ _ (by omega)).trans ((rO6 _ _ (by omega) (by omega) (by omega)).trans (a9.2.2.1 k hk v hv))
      · exact (s5r _ _ (by omega)).trans ((rO6 _ _ (by omega) (by omega) (by omega)).trans (a9.2.2.2.1 i hi).1)
      · exact (s5r _ _ (by omega)).trans ((rO6 _ _ (by omega) (by omega) (by omega)).trans (a9.2.2.2.1 i hi).2)
      · exact (s5r _ _ (by omega)).trans ((rO6 _ _ (by omega) (by omega) (by omega)).trans a9.2.2.2.2)
      · exact ((s8 _ _ (by omega)).trans (s5 _ _ (by omega) (by omega))).trans i61.1
      · exact (r14 _ _ (by omega) (by omega) (by omega)).trans k27.2.2
      · exact (((s8 _ _ (by omega)).trans (s5 _ _ (by omega) (by omega))).trans i61.2.1).trans (((r14 _ _ (by omega) (by omega) (by omega)).trans k27.1).symm)
      · exact (((s8 _ _ (by omega)).trans (s5 _ _ (by omega) (by omega))).trans i61.2.2).trans (((r14 _ _ (by omega) (by omega) (by omega)).trans k27.2.1).symm)
      · exact (tO _ _ (by omega) (by omega) (by omega)).trans ((mS _ _ (by omega)).trans (a12 i hi))
    · rw [eRes]
      exact fun Q hQ => ⟨funext fun j => ((s8 _ _ (by omega)).trans (s5 _ _ (by omega) (by omega))).trans ((iO6 _ _ (by omega)).trans (cR _ _ (by omega) (by omega) (by omega) (by omega))), funext fun j => (s5r _ _ (by omega)).trans (rO6 _ _ (by omega) (by omega) (by omega))⟩
    · rw [eMes]
      exact fun Q hQ => ⟨funext fun j => (tO _ _ (by omega) (by omega) (by omega)).trans (mS _ _ (by omega)), by show τ5.2 Q = _; rw [r15, k2]⟩
end IS
