/-! handler, task, function from head to head; a line that is none -/
section IS
variable {N nb q b : Nat} {tx : Nat → Nat} {σ σ1 σ2 τ τ1 τ2 : zS}
theorem hd_han {s e kd v w : Nat} (h : LHD nb tx q b s e kd v w σ τ) (kk : kd = 311) (hN : 200000 < N) : p_X3_readHandler N σ ∧ p_X9_readLine (nI b) N τ ∧ p_X9_need 59 N (s_X9_readLine (nI b) N τ) ∧ LNE nb tx q b e (r_X3_readHandler N σ) σ τ (s_X9_need 59 N (s_X9_readLine (nI b) N τ)) := by
  obtain ⟨m, nf, fa, fl, K, H, L, u, n, tf, gv, h1, h2, h3, ⟨p1, p2, p3, p4⟩, h5, h6⟩ := h
  have q3 := h1.2.2.1.2.1
  obtain ⟨x1, x2, x3, x4⟩ := ln_han h1 kk h5 hN
  refine ⟨x1, x2, x3, x4.hd q3 h2 h3 h6 (fun fc fm hv => ?_) (fun fm hv m1 mo hm y => ?_)⟩
  · have c : ∀ j, (j = 0 ∨ 3 ≤ j) → j ≤ 5 → (r_X3_readHandler N σ).2.1 q j = σ.1 q j := fun j j1 j2 => fc.2 _ _ (fun z => by
      rcases z with z | z | z
      · omega
      · omega
      · have := z.2.2; unfold Z12 at this; omega)
    have t : ∀ Q, (Q = 470 ∨ 473 ≤ Q) → Q ≤ 475 → (s_X9_need 59 N (s_X9_readLine (nI b) N τ)).1 Q b = τ.1 Q b := fun Q q1 q2 => fm.2 _ _ (fun z => by
      rcases z with z | z
      · omega
      · have := z.2.2.2; unfold Z12 at this; omega)
    obtain ⟨x0, a1, a2, a3, a4⟩ := p1
    obtain ⟨z, c1, c2, c3, c4⟩ := p3
    obtain ⟨x, r, d1, d2, d3, d4, d5, d6⟩ := p4
    exact ⟨⟨x0, a1, a2, (c _ (by omega) (by omega)).trans a3, (t _ (by omega) (by omega)).trans a4⟩, hv.1, ⟨z, c1, c2, (c _ (by omega) (by omega)).trans c3, (t _ (by omega) (by omega)).trans c4⟩, ⟨x, r, d1, d2, (c _ (by omega) (by omega)).trans d3, (t _ (by omega) (by omega)).trans d4, (c _ (by omega) (by omega)).trans d5, (t _ (by omega) (by omega)).trans d6⟩⟩
  · exact absurd (by rw [hm]; exact y) hv.2
theorem bc_l (h : rfr (sBc q) σ σ1) : rfr (sLc q) σ σ1 := h.wk (fun Q j y => by
  unfold sBc at y
  unfold sLc
  omega)
theorem bm_l (h : rfr (sBm b) τ τ1) : rfr (sLm b) τ τ1 := h.wk (fun Q j y => Or.inr (Or.inl y))
theorem hd_task {s e kd v w : Nat} (h : LHD nb tx q b s e kd v w σ τ) (kk : kd = 315) (hN : 200000 < N) : p_X3_readTask N σ ∧ p_X9_readLine (nI b) N τ ∧ p_X9_need 59 N (s_X9_readLine (nI b) N τ) ∧ LNE nb tx q b e (r_X3_readTask N σ) σ τ (s_X9_need 59 N (s_X9_readLine (nI b) N τ)) := by
  obtain ⟨m, nf, fa, fl, K, H, L, u, n, tf, gv, h1, h2, h3, h4, h5, ⟨⟨k1, k2, k3⟩, k4, k5⟩⟩ := h
  have q3 := h1.2.2.1.2.1
  have b2 := h1.2.2.1.2.2
  obtain ⟨x1, x2, x3, x4⟩ := ln_task (ar := fun f => K.2.2.2 f) h1 kk h2.1 h2.2.1.1 h2.2.1.2 k1 k2 k3 (fun f hf => by
    obtain ⟨r1, r2, r3, r4, r5, r6, r7⟩ := h2.2.2.2.2.2.2.1 f hf
    exact ⟨r3, r6, r7⟩) (fun k hk hn => k5 n (Nat.le_refl _) hn k hk) hN
  refine ⟨x1, x2, x3, ?_⟩
  rcases x4 with ⟨a1, a2, a3, a4⟩ | ⟨a1, n4, a2, a3, a4, a5, a6, ⟨f, f1, f2, f3⟩, s1, e1, kd1, v1, w1, g1, g2⟩
  · exact Or.inl ⟨a1, a2, bc_l a3, bm_l a4⟩
  · have c : ∀ Q j, ¬ (sFc q n Q j ∨ (Q = q + 3 ∧ j = n)) → (r_X3_readTask N σ).2.1 Q j = σ.1 Q j := a2.2
    have t : ∀ Q j, ¬ (sFm b n Q j ∨ (Q = 482 ∧ j = 4 * b + n)) → (s_X9_need 59 N (s_X9_readLine (nI b) N τ)).1 Q j = τ.1 Q j := a3.2
    refine Or.inr ⟨a1, a2.wk (fun Q j y => ?_), a3.wk (fun Q j y => ?_), s1, e1, kd1, v1, w1, ⟨m, nf, fa, fl, K, H, L, u, n + 1, fun t => if t = n then f else tf t, fun t i => if t = n then (r_X3_readTask N σ).2.1 (q + 4) (n * 4 + i) else gv t i, g1, h2.eq (fun Q j y => c _ _ ?_) (fun Q j y => t _ _ ?_), (c _ _ ?_).trans h3, h4.eq (fun j y => c _ _ ?_) (fun Q y1 y2 => t _ _ ?_), fun y => (t _ _ ?_).trans (h5 y), ⟨a4, a5, by omega⟩, fun k hk => ?_, fun k c1 c2 i hi => ?_⟩, g2⟩
    · unfold sFc at y; unfold sLc; omega
    · rcases y with y | y
      · rcases y with y | y | y
        · exact Or.inr (Or.inl (Or.inl ⟨y.1, y.2.1, by omega⟩))
        · exact Or.inr (Or.inl (Or.inr (Or.inl ⟨y.1, by omega, by omega⟩)))
        · exact Or.inr (Or.inl (Or.inr (Or.inr (Or.inr y))))
      · exact Or.inr (Or.inl (Or.inr (Or.inr (Or.inl ⟨y.1, by omega, by omega⟩))))
    · unfold sFc; omega
    · unfold sFm; omega
    · unfold sFc; omega
    · unfold sFc; omega
    · unfold sFm; omega
    · unfold sFm; omega
    · by_cases ck : k = n
      · subst ck
        have e1 : (fun t => if t = k then f else tf t) k = f := if_pos rfl
        rw [e1]
        refine ⟨f1, f2, f3, fun i hi => ?_⟩
        have e2 : (fun t i => if t = k then (r_X3_readTask N σ).2.1 (q + 4) (k * 4 + i) else gv t i) k i = (r_X3_readTask N σ).2.1 (q + 4) (k * 4 + i) := if_pos rfl
        rw [e2]
        exact ⟨rfl, (a6 i hi).symm⟩
      · obtain ⟨y1, y2, y3, y4⟩ := k4 k (by omega)
        have e1 : (fun t => if t = n then f else tf t) k = tf k := if_neg ck
        rw [e1]
        refine ⟨y1, (c _ _ (by unfold sFc; omega)).trans y2, (t _ _ (by unfold sFm; omega)).trans y3, fun i hi => ?_⟩
        have e2 : (fun t i => if t = n then (r_X3_readTask N σ).2.1 (q + 4) (n * 4 + i) else gv t i) k i = gv k i := if_neg ck
        rw [e2]
        exact ⟨(c _ _ (by unfold sFc; omega)).trans (y4 i hi).1, (t _ _ (by unfold sFm; omega)).trans (y4 i hi).2⟩
    · exact (c _ _ (by unfold sFc; omega)).trans (k5 k (by omega) c2 i hi)
theorem dc_l (q3 : q = 16 ∨ q = 23) (h : rfr (sDc q) σ σ1) : rfr (sLc q) σ σ1 := h.wk (fun Q j y => by
  unfold sDc at y
  unfold sLc
  omega)
theorem dm_l (h : rfr (sDm b) τ τ1) : rfr (sLm b) τ τ1 := h.wk (fun Q j y => Or.inl y)
theorem dm_no {Q j : Nat} (h : (470 ≤ Q ∧ Q ≤ 475) ∨ Q = 477 ∨ Q = 482 ∨ Q = 483) : ¬ sDm b Q j := fun z => by
  unfold sDm sLa at z
  omega
theorem hd_def {s e kd v w : Nat} (h : LHD nb tx q b s e kd v w σ τ) (kk : kd = 314) (hN : 200000 < N) : p_X3_readFunction N σ ∧ p_X9_readLine (nI b) N τ ∧ p_X9_need 59 N (s_X9_readLine (nI b) N τ) ∧ LNE nb tx q b e (r_X3_readFunction N σ) σ τ (s_X9_need 59 N (s_X9_readLine (nI b) N τ)) := by
  obtain ⟨m, nf, fa, fl, K, H, L, u, n, tf, gv, h1, h2, h3, h4, h5, h6⟩ := h
  have q3 := h1.2.2.1.2.1
  have b2 := h1.2.2.1.2.2
  obtain ⟨x1, x2, x3, x4⟩ := ln_def h1 kk h2 h3 hN
  refine ⟨x1, x2, x3, ?_⟩
  rcases x4 with ⟨a1, a2, a3, a4⟩ | ⟨a1, a2, a3, a4, ⟨nf1, fa1, fl1, K1, H1, L1, u1, f1, f2⟩, s1, e1, kd1, v1, w1, g1, g2⟩
  · exact Or.inl ⟨a1, a2, dc_l q3 a3, dm_l a4⟩
  · have c : ∀ Q j, ¬ sDc q Q j → (r_X3_readFunction N σ).2.1 Q j = σ.1 Q j := a2.2
    have t : ∀ Q j, ¬ sDm b Q j → (s_X9_need 59 N (s_X9_readLine (nI b) N τ)).1 Q j = τ.1 Q j := a3.2
    exact Or.inr ⟨a1, dc_l q3 a2, dm_l a3, s1, e1, kd1, v1, w1, ⟨m, nf1, fa1, fl1, K1, H1, L1, u1, n, tf, gv, g1, f2, a4, h4.eq (fun j y => c _ _ (by unfold sDc; omega)) (fun Q y1 y2 => t _ _ (dm_no (by omega))), fun y => (t _ _ (dm_no (by omega))).trans (h5 y), h6.eq f1 (fun Q j y => c _ _ (by unfold sDc; omega)) (fun Q j y => t _ _ (dm_no (by omega)))⟩, g2⟩
end IS
