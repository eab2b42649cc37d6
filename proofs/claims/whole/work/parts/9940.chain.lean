/-! chains: terms of units, sums of terms -/
section IS
variable {N : Nat} {E : EV} {σ σ1 σ2 τ τ1 τ2 : zS} {K K1 K2 : aK} {H H1 : Nat → Nat}
theorem op_2 {kd : Nat} (h : bnd (opK kd) = 2) : kd = 42 ∨ kd = 47 ∨ kd = 37 := by
  unfold opK at h
  by_cases c1 : kd = 43
  · rw [if_pos c1] at h; exact absurd h (by decide)
  · rw [if_neg c1] at h
    by_cases c2 : kd = 45
    · rw [if_pos c2] at h; exact absurd h (by decide)
    · rw [if_neg c2] at h
      by_cases c3 : kd = 42
      · exact Or.inl c3
      · rw [if_neg c3] at h
        by_cases c4 : kd = 47
        · exact Or.inr (Or.inl c4)
        · rw [if_neg c4] at h
          by_cases c5 : kd = 37
          · exact Or.inr (Or.inr c5)
          · rw [if_neg c5] at h; exact absurd h (by decide)
theorem op_1 {kd : Nat} (h : bnd (opK kd) = 1) : kd = 43 ∨ kd = 45 := by
  unfold opK at h
  by_cases c1 : kd = 43
  · exact Or.inl c1
  · rw [if_neg c1] at h
    by_cases c2 : kd = 45
    · exact Or.inr c2
    · rw [if_neg c2] at h
      by_cases c3 : kd = 42
      · rw [if_pos c3] at h; exact absurd h (by decide)
      · rw [if_neg c3] at h
        by_cases c4 : kd = 47
        · rw [if_pos c4] at h; exact absurd h (by decide)
        · rw [if_neg c4] at h
          by_cases c5 : kd = 37
          · rw [if_pos c5] at h; exact absurd h (by decide)
          · rw [if_neg c5] at h; exact absurd h (by decide)
theorem op_6 {kd : Nat} : opK kd ≤ 6 := by
  unfold opK
  split
  · omega
  · split
    · omega
    · split
      · omega
      · split
        · omega
        · split <;> omega
theorem op_b {kd lo : Nat} (h : bnd (opK kd) = lo) (h1 : 1 ≤ lo) : 2 ≤ opK kd ∧ opK kd ≤ 6 ∧ ¬ kd = 300 := by
  rcases (show lo = 1 ∨ lo = 2 by have := op_6 (kd := kd); have := (bnd_eq (w := opK kd) (by omega)).2; omega) with rfl | rfl
  · rcases op_1 h with rfl | rfl <;> decide
  · rcases op_2 h with rfl | rfl | rfl <;> decide
/-- the class's loop of a chain -/
def CH (E : EV) (N n c lo d : Nat) (L : Nat → Int32 → zS → Int32 × zS) (Q : Nat → Int32 → zS → Prop) : Prop := ∀ (k i kd : Nat) (σ : zS), i ≤ 1000 → σ.1 3 2 = nI kd → kd < 400 → (¬ bnd (opK kd) = lo → Q (k + 1) (nI i) σ ∧ L (k + 1) (nI i) σ = (1, σ)) ∧ (bnd (opK kd) = lo → i < 1000 → p_X6_next N σ → h_rd N n c (nI d) 0 (s_X6_next N σ) → ((g_rd N n c (nI d) 0 (s_X6_next N σ)).1 = 0 → Q (k + 1) (nI i) σ ∧ L (k + 1) (nI i) σ = (0, (g_rd N n c (nI d) 0 (s_X6_next N σ)).2)) ∧ ((g_rd N n c (nI d) 0 (s_X6_next N σ)).1 = 1 → (g_rd N n c (nI d) 0 (s_X6_next N σ)).2.2 2 1 = E.q + 1 → p_X2_emit E.q (nI (cmap (opK kd))) 0 (g_rd N n c (nI d) 0 (s_X6_next N σ)).2 → (Q k (nI (i + 1)) (r_X2_emit E.q (nI (cmap (opK kd))) 0 (g_rd N n c (nI d) 0 (s_X6_next N σ)).2).2 → Q (k + 1) (nI i) σ) ∧ L (k + 1) (nI i) σ = L k (nI (i + 1)) (r_X2_emit E.q (nI (cmap (opK kd))) 0 (g_rd N n c (nI d) 0 (s_X6_next N σ)).2).2))
theorem ch_term {n d r : Nat} (q3 : E.q = 16 ∨ E.q = 23) : CH E N n 3 2 d (fun k x σ => l_X3_readTerm (g_rd N n) N (2 * k + r) 0 (nI d) x σ) (fun k x σ => q_X3_readTerm (h_rd N n) (g_rd N n) N (2 * k + r) 0 (nI d) x σ) := by
  intro k i kd σ i1 hk k4
  have e2 : 2 * (k + 1) + r = (2 * k + r) + 1 + 1 := by omega
  have n10 : ¬ (1 : Int32) = 0 := by decide
  have hl := ly_q q3
  have ne : ∀ c, c < 400 → ¬ kd = c → ¬ σ.1 3 2 = nI c := fun c hc y z => by
    rw [hk] at z
    exact y ((nI_eq (by omega) (by omega)).mp z)
  dsimp only
  rw [e2]
  refine ⟨fun h => ?_, fun h i2 hn hP => ?_⟩
  · have c1 : ¬ kd = 42 := fun y => h (by rw [y]; decide)
    have c2 : ¬ kd = 47 := fun y => h (by rw [y]; decide)
    have c3 : ¬ kd = 37 := fun y => h (by rw [y]; decide)
    have n1 : ¬ σ.1 3 2 = 42 := ne 42 (by decide) c1
    have n2 : ¬ σ.1 3 2 = 47 := ne 47 (by decide) c2
    have n3 : ¬ σ.1 3 2 = 37 := ne 37 (by decide) c3
    have q2 : q_X3_readTerm (h_rd N n) (g_rd N n) N (2 * k + r + 1) 2 (nI d) (nI i) σ := by
      rw [q_X3_readTerm]; trivial
    have l2 : l_X3_readTerm (g_rd N n) N (2 * k + r + 1) 2 (nI d) (nI i) σ = (1, σ) := by
      rw [l_X3_readTerm]
    refine ⟨?_, ?_⟩
    · rw [q_X3_readTerm]
      exact ⟨fun _ => q2, fun _ => ⟨fun y => absurd y n1, fun _ => ⟨fun y => absurd y n2, fun _ => ⟨fun _ => q2, fun y => absurd y n3⟩⟩⟩⟩
    · rw [l_X3_readTerm, if_neg n1, if_neg n2, if_neg n3]
      by_cases c : (1000 : Int32) ≤ nI i
      · rw [if_pos c, l2]
      · rw [if_neg c, l2]
  · have c1000 : ¬ (1000 : Int32) ≤ nI i := nI_ge (b := 1000) i2 (by decide)
    -- to the second head
    have hd1 : l_X3_readTerm (g_rd N n) N (2 * k + r + 1 + 1) 0 (nI d) (nI i) σ = l_X3_readTerm (g_rd N n) N (2 * k + r + 1) 1 (nI d) (nI i) σ ∧ (q_X3_readTerm (h_rd N n) (g_rd N n) N (2 * k + r + 1) 1 (nI d) (nI i) σ → q_X3_readTerm (h_rd N n) (g_rd N n) N (2 * k + r + 1 + 1) 0 (nI d) (nI i) σ) := by
      rcases op_2 h with rfl | rfl | rfl
      · have y0 : σ.1 3 2 = 42 := hk
        refine ⟨by rw [l_X3_readTerm, if_neg c1000, if_pos y0], fun y => ?_⟩
        rw [q_X3_readTerm]
        exact ⟨fun z => absurd z c1000, fun _ => ⟨fun _ => y, fun z => absurd y0 z⟩⟩
      · have y0 : σ.1 3 2 = 47 := hk
        have y1 : ¬ σ.1 3 2 = 42 := ne 42 (by decide) (by decide)
        refine ⟨by rw [l_X3_readTerm, if_neg c1000, if_neg y1, if_pos y0], fun y => ?_⟩
        rw [q_X3_readTerm]
        exact ⟨fun z => absurd z c1000, fun _ => ⟨fun z => absurd z y1, fun _ => ⟨fun _ => y, fun z => absurd y0 z⟩⟩⟩
      · have y0 : σ.1 3 2 = 37 := hk
        have y1 : ¬ σ.1 3 2 = 42 := ne 42 (by decide) (by decide)
        have y2 : ¬ σ.1 3 2 = 47 := ne 47 (by decide) (by decide)
        refine ⟨by rw [l_X3_readTerm, if_neg c1000, if_neg y1, if_neg y2, if_pos y0], fun y => ?_⟩
        rw [q_X3_readTerm]
        exact ⟨fun z => absurd z c1000, fun _ => ⟨fun z => absurd z y1, fun _ => ⟨fun z => absurd z y2, fun _ => ⟨fun z => absurd y0 z, fun _ => y⟩⟩⟩⟩
    rw [hd1.1]
    refine ⟨fun g0 => ⟨hd1.2 ?_, ?_⟩, fun g1 gq ge => ⟨fun y => hd1.2 ?_, ?_⟩⟩
    · have g0' : ∀ {P : Prop}, ¬ (g_rd N n 3 (nI d) 0 (s_X6_next N σ)).1 = 0 → P := fun z => absurd g0 z
      rw [q_X3_readTerm]
      exact ⟨fun _ => ⟨fun _ => ⟨hn, hP, fun z => g0' z⟩, fun _ => ⟨hn, hP, fun z => g0' z⟩⟩, fun _ => ⟨hn, hP, fun z => g0' z⟩⟩
    · rw [l_X3_readTerm]
      have g7 : (g_rd N n 3 (nI d) 0 (u_X3_readTerm_h1_7 (g_rd N n) N (nI d) (nI i) σ)).1 = 0 := g0
      have g4 : (g_rd N n 3 (nI d) 0 (u_X3_readTerm_h1_4 (g_rd N n) N (nI d) (nI i) σ)).1 = 0 := g0
      have g1 : (g_rd N n 3 (nI d) 0 (u_X3_readTerm_h1_1 (g_rd N n) N (nI d) (nI i) σ)).1 = 0 := g0
      rw [if_pos g7, if_pos g4, if_pos g1]
      by_cases c1 : σ.1 3 2 = 42
      · rw [if_pos c1]; rfl
      · rw [if_neg c1]
        by_cases c2 : σ.1 3 2 = 47
        · rw [if_pos c2]; rfl
        · rw [if_neg c2]; rfl
    · have er : (g_rd N n 3 (nI d) 0 (s_X6_next N σ)).2.2 2 1 - 1 = E.q := by rw [gq]; rfl
      have nz : (g_rd N n 3 (nI d) 0 (s_X6_next N σ)).2.2 2 1 ≠ 0 := by rw [gq]; omega
      rw [q_X3_readTerm, nI_1]
      rcases op_2 h with rfl | rfl | rfl
      · have y0 : σ.1 3 2 = 42 := hk
        refine ⟨fun z => absurd y0 z, fun _ => ⟨hn, hP, fun _ => ?_⟩⟩
        unfold u_X3_readTerm_h1_9 u_X3_readTerm_h1_8 u_X3_readTerm_h1_7
        rw [er]
        exact ⟨⟨nz, hl⟩, ge, y⟩
      · have y0 : σ.1 3 2 = 47 := hk
        have y1 : ¬ σ.1 3 2 = 42 := ne 42 (by decide) (by decide)
        refine ⟨fun _ => ⟨fun z => absurd y0 z, fun _ => ⟨hn, hP, fun _ => ?_⟩⟩, fun z => absurd z y1⟩
        unfold u_X3_readTerm_h1_6 u_X3_readTerm_h1_5 u_X3_readTerm_h1_4
        rw [er]
        exact ⟨⟨nz, hl⟩, ge, y⟩
      · have y1 : ¬ σ.1 3 2 = 42 := ne 42 (by decide) (by decide)
        have y2 : ¬ σ.1 3 2 = 47 := ne 47 (by decide) (by decide)
        refine ⟨fun _ => ⟨fun _ => ⟨hn, hP, fun _ => ?_⟩, fun z => absurd z y2⟩, fun z => absurd z y1⟩
        unfold u_X3_readTerm_h1_3 u_X3_readTerm_h1_2 u_X3_readTerm_h1_1
        rw [er]
        exact ⟨⟨nz, hl⟩, ge, y⟩
    · have er : (g_rd N n 3 (nI d) 0 (s_X6_next N σ)).2.2 2 1 - 1 = E.q := by rw [gq]; rfl
      have gn : ¬ (g_rd N n 3 (nI d) 0 (s_X6_next N σ)).1 = 0 := by rw [g1]; exact n10
      have g7 : ¬ (g_rd N n 3 (nI d) 0 (u_X3_readTerm_h1_7 (g_rd N n) N (nI d) (nI i) σ)).1 = 0 := gn
      have g4 : ¬ (g_rd N n 3 (nI d) 0 (u_X3_readTerm_h1_4 (g_rd N n) N (nI d) (nI i) σ)).1 = 0 := gn
      have g1' : ¬ (g_rd N n 3 (nI d) 0 (u_X3_readTerm_h1_1 (g_rd N n) N (nI d) (nI i) σ)).1 = 0 := gn
      rw [l_X3_readTerm, if_neg g7, if_neg g4, if_neg g1', nI_1]
      rcases op_2 h with rfl | rfl | rfl
      · have y0 : σ.1 3 2 = 42 := hk
        rw [if_pos y0]
        unfold u_X3_readTerm_h1_9 u_X3_readTerm_h1_8 u_X3_readTerm_h1_7
        rw [er]
        rfl
      · have y0 : σ.1 3 2 = 47 := hk
        have y1 : ¬ σ.1 3 2 = 42 := ne 42 (by decide) (by decide)
        rw [if_neg y1, if_pos y0]
        unfold u_X3_readTerm_h1_6 u_X3_readTerm_h1_5 u_X3_readTerm_h1_4
        rw [er]
        rfl
      · have y1 : ¬ σ.1 3 2 = 42 := ne 42 (by decide) (by decide)
        have y2 : ¬ σ.1 3 2 = 47 := ne 47 (by decide) (by decide)
        rw [if_neg y1, if_neg y2]
        unfold u_X3_readTerm_h1_3 u_X3_readTerm_h1_2 u_X3_readTerm_h1_1
        rw [er]
        rfl
theorem ch_sum {n d : Nat} (q3 : E.q = 16 ∨ E.q = 23) : CH E N n 2 1 d (fun k x σ => l_X3_readSum (g_rd N n) N k (nI d) x σ) (fun k x σ => q_X3_readSum (h_rd N n) (g_rd N n) N k (nI d) x σ) := by
  intro k i kd σ i1 hk k4
  have n10 : ¬ (1 : Int32) = 0 := by decide
  have hl := ly_q q3
  have ne : ∀ c, c < 400 → ¬ kd = c → ¬ σ.1 3 2 = nI c := fun c hc y z => by
    rw [hk] at z
    exact y ((nI_eq (by omega) (by omega)).mp z)
  dsimp only
  refine ⟨fun h => ?_, fun h i2 hn hP => ?_⟩
  · have c1 : ¬ kd = 43 := fun y => h (by rw [y]; decide)
    have c2 : ¬ kd = 45 := fun y => h (by rw [y]; decide)
    have n1 : ¬ σ.1 3 2 = 43 := ne 43 (by decide) c1
    have n2 : ¬ σ.1 3 2 = 45 := ne 45 (by decide) c2
    refine ⟨?_, ?_⟩
    · show q_X3_readSum (h_rd N n) (g_rd N n) N (k + 1) (nI d) (nI i) σ
      rw [q_X3_readSum]
      exact fun _ => ⟨fun y => absurd y n1, fun _ y => absurd y n2⟩
    · show l_X3_readSum (g_rd N n) N (k + 1) (nI d) (nI i) σ = _
      rw [l_X3_readSum, if_neg n1, if_neg n2]
      by_cases c : (1000 : Int32) ≤ nI i
      · rw [if_pos c]
      · rw [if_neg c]
  · have c1000 : ¬ (1000 : Int32) ≤ nI i := nI_ge (b := 1000) i2 (by decide)
    refine ⟨fun g0 => ⟨?_, ?_⟩, fun g1 gq ge => ⟨fun y => ?_, ?_⟩⟩
    · rw [q_X3_readSum]
      have g0' : ∀ {P : Prop}, ¬ (g_rd N n 2 (nI d) 0 (s_X6_next N σ)).1 = 0 → P := fun z => absurd g0 z
      exact fun _ => ⟨fun _ => ⟨fun _ => ⟨hn, hP, fun z => g0' z⟩, fun _ => ⟨hn, hP, fun z => g0' z⟩⟩, fun _ _ => ⟨fun _ => ⟨hn, hP, fun z => g0' z⟩, fun _ => ⟨hn, hP, fun z => g0' z⟩⟩⟩
    · rw [l_X3_readSum, if_neg c1000]
      have a1 : (g_rd N n 2 (nI d) 0 (u_X3_readSum_h0_4 (g_rd N n) N (nI d) (nI i) σ)).1 = 0 := g0
      have a2 : (g_rd N n 2 (nI d) 0 (u_X3_readSum_h0_7 (g_rd N n) N (nI d) (nI i) σ)).1 = 0 := g0
      rcases op_1 h with rfl | rfl
      · have y0 : σ.1 3 2 = 43 := hk
        rw [if_pos y0, if_pos y0, if_pos a1]; rfl
      · have y0 : σ.1 3 2 = 45 := hk
        have y1 : ¬ σ.1 3 2 = 43 := ne 43 (by decide) (by decide)
        rw [if_neg y1, if_pos y0, if_neg y1, if_pos a2]; rfl
    · have er : (g_rd N n 2 (nI d) 0 (s_X6_next N σ)).2.2 2 1 - 1 = E.q := by rw [gq]; rfl
      have nz : (g_rd N n 2 (nI d) 0 (s_X6_next N σ)).2.2 2 1 ≠ 0 := by rw [gq]; omega
      rw [q_X3_readSum, nI_1]
      rcases op_1 h with rfl | rfl
      · have y0 : σ.1 3 2 = 43 := hk
        refine fun _ => ⟨fun _ => ⟨fun z => absurd y0 z, fun _ => ⟨hn, hP, fun _ => ?_⟩⟩, fun z => absurd y0 z⟩
        unfold u_X3_readSum_h0_6 u_X3_readSum_h0_5 u_X3_readSum_h0_4
        rw [er]
        exact ⟨⟨nz, hl⟩, ge, y⟩
      · have y0 : σ.1 3 2 = 45 := hk
        have y1 : ¬ σ.1 3 2 = 43 := ne 43 (by decide) (by decide)
        refine fun _ => ⟨fun z => absurd z y1, fun _ _ => ⟨fun _ => ⟨hn, hP, fun _ => ?_⟩, fun z => absurd z y1⟩⟩
        unfold u_X3_readSum_h0_9 u_X3_readSum_h0_8 u_X3_readSum_h0_7
        rw [er]
        exact ⟨⟨nz, hl⟩, ge, y⟩
    · have er : (g_rd N n 2 (nI d) 0 (s_X6_next N σ)).2.2 2 1 - 1 = E.q := by rw [gq]; rfl
      have gn : ¬ (g_rd N n 2 (nI d) 0 (s_X6_next N σ)).1 = 0 := by rw [g1]; exact n10
      have a1 : ¬ (g_rd N n 2 (nI d) 0 (u_X3_readSum_h0_4 (g_rd N n) N (nI d) (nI i) σ)).1 = 0 := gn
      have a2 : ¬ (g_rd N n 2 (nI d) 0 (u_X3_readSum_h0_7 (g_rd N n) N (nI d) (nI i) σ)).1 = 0 := gn
      rw [l_X3_readSum, if_neg c1000, nI_1]
      rcases op_1 h with rfl | rfl
      · have y0 : σ.1 3 2 = 43 := hk
        rw [if_pos y0, if_pos y0, if_neg a1]
        unfold u_X3_readSum_h0_6 u_X3_readSum_h0_5 u_X3_readSum_h0_4
        rw [er]
        rfl
      · have y0 : σ.1 3 2 = 45 := hk
        have y1 : ¬ σ.1 3 2 = 43 := ne 43 (by decide) (by decide)
        rw [if_neg y1, if_pos y0, if_neg y1, if_neg a2]
        unfold u_X3_readSum_h0_9 u_X3_readSum_h0_8 u_X3_readSum_h0_7
        rw [er]
        rfl
end IS
