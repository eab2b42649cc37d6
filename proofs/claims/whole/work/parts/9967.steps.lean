/-! each line, from head to head -/
section IS
variable {N nb q b : Nat} {tx : Nat → Nat} {σ σ1 σ2 τ τ1 τ2 : zS}
theorem hd_win {s e kd v w : Nat} (h : LHD nb tx q b s e kd v w σ τ) (kk : kd = 310) (hN : 200000 < N) : p_X3_readWindows N σ ∧ p_X9_readLine (nI b) N τ ∧ p_X9_need 59 N (s_X9_readLine (nI b) N τ) ∧ LNE nb tx q b e (r_X3_readWindows N σ) σ τ (s_X9_need 59 N (s_X9_readLine (nI b) N τ)) := by
  obtain ⟨m, nf, fa, fl, K, H, L, u, n, tf, gv, h1, h2, h3, ⟨p1, p2, p3, p4⟩, h5, h6⟩ := h
  have q3 := h1.2.2.1.2.1
  obtain ⟨x1, x2, x3, x4⟩ := ln_win h1 kk hN
  refine ⟨x1, x2, x3, x4.hd q3 h2 h3 h6 (fun fc fm hv => ?_) (fun fm _ m1 mo _ y => ?_)⟩
  · have c : ∀ j, 1 ≤ j → j ≤ 5 → (r_X3_readWindows N σ).2.1 q j = σ.1 q j := fun j j1 j2 => fc.2 _ _ (fun z => by
      rcases z with z | z | z
      · omega
      · omega
      · have := z.2.2; omega)
    have t : ∀ Q, 471 ≤ Q → Q ≤ 475 → (s_X9_need 59 N (s_X9_readLine (nI b) N τ)).1 Q b = τ.1 Q b := fun Q q1 q2 => fm.2 _ _ (fun z => by
      rcases z with z | z
      · omega
      · have := z.2.2.2; omega)
    obtain ⟨y, k, b1, b2, b3, b4, b5, b6, b7, b8⟩ := p2
    obtain ⟨z, c1, c2, c3, c4⟩ := p3
    obtain ⟨x, r, d1, d2, d3, d4, d5, d6⟩ := p4
    exact ⟨hv, ⟨y, k, b1, b2, (c _ (by omega) (by omega)).trans b3, (t _ (by omega) (by omega)).trans b4, (c _ (by omega) (by omega)).trans b5, (t _ (by omega) (by omega)).trans b6, b7, b8⟩, ⟨z, c1, c2, (c _ (by omega) (by omega)).trans c3, (t _ (by omega) (by omega)).trans c4⟩, ⟨x, r, d1, d2, (c _ (by omega) (by omega)).trans d3, (t _ (by omega) (by omega)).trans d4, (c _ (by omega) (by omega)).trans d5, (t _ (by omega) (by omega)).trans d6⟩⟩
  · rw [fm.2 _ _ (fun z => by
      rcases z with z | z
      · omega
      · have := z.2.2.2; omega)]
    exact h5 (mo 1 (by decide) y)
theorem hd_sli {s e kd v w : Nat} (h : LHD nb tx q b s e kd v w σ τ) (kk : kd = 312) (hN : 200000 < N) : p_X3_readSlice N σ ∧ p_X9_readLine (nI b) N τ ∧ p_X9_need 59 N (s_X9_readLine (nI b) N τ) ∧ LNE nb tx q b e (r_X3_readSlice N σ) σ τ (s_X9_need 59 N (s_X9_readLine (nI b) N τ)) := by
  obtain ⟨m, nf, fa, fl, K, H, L, u, n, tf, gv, h1, h2, h3, ⟨p1, p2, p3, p4⟩, h5, h6⟩ := h
  have q3 := h1.2.2.1.2.1
  obtain ⟨x1, x2, x3, x4⟩ := ln_sli h1 kk hN
  refine ⟨x1, x2, x3, x4.hd q3 h2 h3 h6 (fun fc fm hv => ?_) (fun fm _ m1 mo _ y => ?_)⟩
  · have c : ∀ j, ¬ j = 3 → j ≤ 5 → (r_X3_readSlice N σ).2.1 q j = σ.1 q j := fun j j1 j2 => fc.2 _ _ (fun z => by
      rcases z with z | z | z
      · omega
      · omega
      · exact j1 z.2.2)
    have t : ∀ Q, ¬ Q = 473 → 470 ≤ Q → Q ≤ 475 → (s_X9_need 59 N (s_X9_readLine (nI b) N τ)).1 Q b = τ.1 Q b := fun Q q0 q1 q2 => fm.2 _ _ (fun z => by
      rcases z with z | z
      · omega
      · have := z.2.2.2; omega)
    obtain ⟨x0, a1, a2, a3, a4⟩ := p1
    obtain ⟨y, k, b1, b2, b3, b4, b5, b6, b7, b8⟩ := p2
    obtain ⟨x, r, d1, d2, d3, d4, d5, d6⟩ := p4
    exact ⟨⟨x0, a1, a2, (c _ (by omega) (by omega)).trans a3, (t _ (by omega) (by omega) (by omega)).trans a4⟩, ⟨y, k, b1, b2, (c _ (by omega) (by omega)).trans b3, (t _ (by omega) (by omega) (by omega)).trans b4, (c _ (by omega) (by omega)).trans b5, (t _ (by omega) (by omega) (by omega)).trans b6, b7, b8⟩, hv, ⟨x, r, d1, d2, (c _ (by omega) (by omega)).trans d3, (t _ (by omega) (by omega) (by omega)).trans d4, (c _ (by omega) (by omega)).trans d5, (t _ (by omega) (by omega) (by omega)).trans d6⟩⟩
  · rw [fm.2 _ _ (fun z => by
      rcases z with z | z
      · omega
      · have := z.2.2.2; omega)]
    exact h5 (mo 1 (by decide) y)
theorem hd_pri {s e kd v w : Nat} (h : LHD nb tx q b s e kd v w σ τ) (kk : kd = 313) (hN : 200000 < N) : p_X3_readPrice N σ ∧ p_X9_readLine (nI b) N τ ∧ p_X9_need 59 N (s_X9_readLine (nI b) N τ) ∧ LNE nb tx q b e (r_X3_readPrice N σ) σ τ (s_X9_need 59 N (s_X9_readLine (nI b) N τ)) := by
  obtain ⟨m, nf, fa, fl, K, H, L, u, n, tf, gv, h1, h2, h3, ⟨p1, p2, p3, p4⟩, h5, h6⟩ := h
  have q3 := h1.2.2.1.2.1
  obtain ⟨x1, x2, x3, x4⟩ := ln_pri h1 kk hN
  refine ⟨x1, x2, x3, x4.hd q3 h2 h3 h6 (fun fc fm hv => ?_) (fun fm _ m1 mo _ y => ?_)⟩
  · have c : ∀ j, j ≤ 3 → (r_X3_readPrice N σ).2.1 q j = σ.1 q j := fun j j2 => fc.2 _ _ (fun z => by
      rcases z with z | z | z
      · omega
      · omega
      · have := z.2.2; omega)
    have t : ∀ Q, 470 ≤ Q → Q ≤ 473 → (s_X9_need 59 N (s_X9_readLine (nI b) N τ)).1 Q b = τ.1 Q b := fun Q q1 q2 => fm.2 _ _ (fun z => by
      rcases z with z | z
      · omega
      · have := z.2.2.2; omega)
    obtain ⟨x0, a1, a2, a3, a4⟩ := p1
    obtain ⟨y, k, b1, b2, b3, b4, b5, b6, b7, b8⟩ := p2
    obtain ⟨z, c1, c2, c3, c4⟩ := p3
    exact ⟨⟨x0, a1, a2, (c _ (by omega)).trans a3, (t _ (by omega) (by omega)).trans a4⟩, ⟨y, k, b1, b2, (c _ (by omega)).trans b3, (t _ (by omega) (by omega)).trans b4, (c _ (by omega)).trans b5, (t _ (by omega) (by omega)).trans b6, b7, b8⟩, ⟨z, c1, c2, (c _ (by omega)).trans c3, (t _ (by omega) (by omega)).trans c4⟩, hv⟩
  · rw [fm.2 _ _ (fun z => by
      rcases z with z | z
      · omega
      · have := z.2.2.2; omega)]
    exact h5 (mo 1 (by decide) y)
end IS
