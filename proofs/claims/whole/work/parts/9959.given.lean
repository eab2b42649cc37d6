/-! the numbers of a task -/
section IS
variable {N nb q b : Nat} {tx : Nat → Nat} {σ σ1 σ2 τ τ1 τ2 : zS} {Z : Nat → Prop}
/-- one too many -/
theorem rg_many {m s e kd v w P : Nat} (h : LNb nb tx q b m s e kd v w σ τ) (kk : kd = 302 ∨ kd = 45) (hN : 200000 < N) : ∃ c, ((kd = 302 ∧ 9999 < v ∧ c = 2) ∨ (¬ (kd = 302 ∧ 9999 < v) ∧ c = 5)) ∧ p_X9_readGiven (nI P) 1 N τ ∧ FLm c τ (s_X9_readGiven (nI P) 1 N τ) := by
  have n10 : ¬ (1 : Int32) = 0 := by decide
  obtain ⟨a1, a2, -, hT, h25, -, -⟩ := h
  obtain ⟨t1, t2⟩ := rk_at (c := 45) hT a2 h25 (by decide)
  have t2 : f_X9_isAt 45 τ = if kd = 45 then 1 else 0 := t2
  obtain ⟨N1, hN1⟩ : ∃ z, N = z + 1 + 1 + 1 := ⟨N - 3, by omega⟩
  have vw := hT.2.2.2.2.1
  have tok := (hT.tok (by have := hT.kd; omega)).1
  -- with a fault found
  have hb : ∀ (c : Nat) (ρ : zS) (x3 : Int32), 1 ≤ c → c ≤ 5 → ρ.1 468 25 = nI c → l_X9_readGiven N N 0 (nI P) 1 x3 ρ = ρ ∧ q_X9_readGiven N N 0 (nI P) 1 x3 ρ := fun c ρ x3 c1 c5 h0 => by
    have n0 : ¬ ρ.1 468 25 = 0 := by rw [h0]; exact nI_ne0 (by omega) (by omega)
    have e1 : u_X9_readGiven_h0_1 N (nI P) 1 x3 ρ = ρ := rf_fail2 c1 c5 h0
    obtain ⟨f1, f2⟩ := rf_num_bad (N := N) (lo := 0) (hi := 9999) c1 c5 h0
    have e2 : u_X9_readGiven_h2_1 N (nI P) 1 x3 ρ = ρ := f2
    have l2 : l_X9_readGiven N (N1 + 1) 2 (nI P) 1 x3 ρ = ρ ∧ q_X9_readGiven N (N1 + 1) 2 (nI P) 1 x3 ρ := by
      rw [l_X9_readGiven, q_X9_readGiven, e2, if_neg n0]
      exact ⟨rfl, f1, fun y => absurd y n0⟩
    have l1 : l_X9_readGiven N (N1 + 1 + 1) 1 (nI P) 1 x3 ρ = ρ ∧ q_X9_readGiven N (N1 + 1 + 1) 1 (nI P) 1 x3 ρ := by
      rw [l_X9_readGiven, q_X9_readGiven, if_neg n0]
      refine ⟨?_, fun _ => l2.2, fun _ => ⟨fun _ => l2.2, fun y => absurd y n0⟩⟩
      split <;> exact l2.1
    have l0 : l_X9_readGiven N (N1 + 1 + 1 + 1) 0 (nI P) 1 x3 ρ = ρ ∧ q_X9_readGiven N (N1 + 1 + 1 + 1) 0 (nI P) 1 x3 ρ := by
      rw [l_X9_readGiven, q_X9_readGiven, if_neg n10, e1]
      exact ⟨l1.1, fun y => absurd y n10, fun _ => l1.2⟩
    rw [← hN1] at l0
    exact l0
  -- the fault of one too many itself
  have hm : ∀ x3 : Int32, l_X9_readGiven N N 0 (nI P) 1 x3 τ = s_X9_fail (nI 5) τ ∧ q_X9_readGiven N N 0 (nI P) 1 x3 τ := fun x3 => by
    have f5 : (s_X9_fail (nI 5) τ).1 468 25 = nI 5 := by rw [rf_fail h25, gI_n (by omega), gI_h rfl rfl]
    have n0 : ¬ (s_X9_fail (nI 5) τ).1 468 25 = 0 := by rw [f5]; decide
    obtain ⟨g1, g2⟩ := rf_num_bad (N := N) (lo := 0) (hi := 9999) (c := 5) (by decide) (by decide) f5
    have e1 : u_X9_readGiven_h0_1 N (nI P) 1 x3 τ = s_X9_fail (nI 5) τ := rfl
    have e2 : u_X9_readGiven_h2_1 N (nI P) 1 x3 (s_X9_fail (nI 5) τ) = s_X9_fail (nI 5) τ := g2
    have l2 : l_X9_readGiven N (N1 + 1) 2 (nI P) 1 x3 (s_X9_fail (nI 5) τ) = s_X9_fail (nI 5) τ ∧ q_X9_readGiven N (N1 + 1) 2 (nI P) 1 x3 (s_X9_fail (nI 5) τ) := by
      rw [l_X9_readGiven, q_X9_readGiven, e2, if_neg n0]
      exact ⟨rfl, g1, fun y => absurd y n0⟩
    have l1 : l_X9_readGiven N (N1 + 1 + 1) 1 (nI P) 1 x3 (s_X9_fail (nI 5) τ) = s_X9_fail (nI 5) τ ∧ q_X9_readGiven N (N1 + 1 + 1) 1 (nI P) 1 x3 (s_X9_fail (nI 5) τ) := by
      rw [l_X9_readGiven, q_X9_readGiven, if_neg n0]
      refine ⟨?_, fun _ => l2.2, fun _ => ⟨fun _ => l2.2, fun y => absurd y n0⟩⟩
      split <;> exact l2.1
    have l0 : l_X9_readGiven N (N1 + 1 + 1 + 1) 0 (nI P) 1 x3 τ = s_X9_fail (nI 5) τ ∧ q_X9_readGiven N (N1 + 1 + 1 + 1) 0 (nI P) 1 x3 τ := by
      rw [l_X9_readGiven, q_X9_readGiven, if_neg n10, e1]
      exact ⟨l1.1, fun y => absurd y n10, fun _ => l1.2⟩
    rw [← hN1] at l0
    exact l0
  by_cases k : kd = 302
  · have t3 : τ.1 468 22 = 3 := tok.mpr k
    have en : τ.1 468 23 = nI w := by
      have h12 := hT.2.2.2.2.2.2.2.2.2.2.2
      unfold RK at h12
      rcases h12 with ⟨y1, y2⟩ | ⟨y1, y2⟩ | ⟨y1, y2, y3⟩ | ⟨y1, y2, y3⟩ | ⟨y1, y2, y3, y4⟩ | ⟨y1, y2, y3, y4⟩ <;> first | exact y3 | omega
    by_cases cv : 9999 < v
    · have cw : ¬ nI w ≤ 9999 := nI_ge (a := 9999) (by unfold nRl at vw; omega) (by unfold nRl at vw; omega)
      have f2 : (s_X9_fail (nI 2) τ).1 468 25 = nI 2 := by rw [rf_fail h25, gI_n (by omega), gI_h rfl rfl]
      obtain ⟨x1, x2⟩ := hb 2 (s_X9_fail (nI 2) τ) (f_X9_isAt 45 τ) (by decide) (by decide) f2
      refine ⟨2, Or.inl ⟨k, cv, rfl⟩, ⟨t1, fun y => absurd t3 y, fun _ => ⟨fun y => absurd y (by rw [en]; exact cw), fun _ => x2⟩⟩, ?_⟩
      unfold s_X9_readGiven
      rw [if_pos t3, en, if_neg cw]
      show FLm 2 τ (l_X9_readGiven N N 0 (nI P) 1 (f_X9_isAt 45 τ) (s_X9_fail (nI 2) τ))
      rw [x1]
      exact rf_fail h25
    · have cw : nI w ≤ 9999 := nI_le (b := 9999) (by unfold nRl at vw; omega) (by decide)
      obtain ⟨x1, x2⟩ := hm (f_X9_isAt 45 τ)
      refine ⟨5, Or.inr ⟨fun y => cv y.2, rfl⟩, ⟨t1, fun y => absurd t3 y, fun _ => ⟨fun _ => x2, fun y => absurd (by rw [en]; exact cw) y⟩⟩, ?_⟩
      unfold s_X9_readGiven
      rw [if_pos t3, en, if_pos cw, x1]
      exact rf_fail h25
  · have t3 : ¬ τ.1 468 22 = 3 := fun y => k (tok.mp y)
    obtain ⟨x1, x2⟩ := hm (f_X9_isAt 45 τ)
    refine ⟨5, Or.inr ⟨fun y => k y.1, rfl⟩, ⟨t1, fun _ => x2, fun y => absurd y t3⟩, ?_⟩
    unfold s_X9_readGiven
    rw [if_neg t3, x1]
    exact rf_fail h25
/-- what a number of a task may change -/
def sGc (q Q j : Nat) : Prop := (Q = 3 ∧ 2 ≤ j ∧ j ≤ 5) ∨ (Q = 2 ∧ 2 ≤ j ∧ j ≤ 5) ∨ Q = q + 4
def sGm (P Q j : Nat) : Prop := (Q = 468 ∧ 20 ≤ j ∧ j ≤ 26) ∨ (Q = 483 ∧ j = P)
theorem gc_of (h : rfr (sZ q (fun _ => False)) σ σ1) : rfr (sGc q) σ σ1 := h.wk (fun Q j y => y.elim Or.inl (fun y => y.elim (fun y => Or.inr (Or.inl y)) (fun y => absurd y.2.2 (fun z => z))))
/-- a number, perhaps with a - before it -/
theorem tk_num {m s e kd v w P I : Nat} (h : LNb nb tx q b m s e kd v w σ τ) (kk : kd = 302 ∨ kd = 45) (I16 : I < 16) (P32 : P < 32) (hN : 200000 < N) : p_X3_readTaskNumber (nI I) N σ ∧ p_X9_readGiven (nI P) 0 N τ ∧ (((r_X3_readTaskNumber (nI I) N σ).1 = 0 ∧ FT (r_X3_readTaskNumber (nI I) N σ).2 (s_X9_readGiven (nI P) 0 N τ) ∧ rfr (sGc q) σ (r_X3_readTaskNumber (nI I) N σ).2 ∧ rfr (sGm P) τ (s_X9_readGiven (nI P) 0 N τ)) ∨ ((r_X3_readTaskNumber (nI I) N σ).1 = 1 ∧ ∃ x, ((r_X3_readTaskNumber (nI I) N σ).2.1 (q + 4) I = x ∧ (s_X9_readGiven (nI P) 0 N τ).1 483 P = x) ∧ rfr (fun Q j => (Q = 3 ∧ 2 ≤ j ∧ j ≤ 5) ∨ (Q = 2 ∧ j = 5) ∨ (Q = q + 4 ∧ j = I)) σ (r_X3_readTaskNumber (nI I) N σ).2 ∧ rfr (fun Q j => sTM Q j ∨ (Q = 483 ∧ j = P)) τ (s_X9_readGiven (nI P) 0 N τ) ∧ ∃ s1 e1 kd1 v1 w1, LNb nb tx q b m s1 e1 kd1 v1 w1 (r_X3_readTaskNumber (nI I) N σ).2 (s_X9_readGiven (nI P) 0 N τ) ∧ e ≤ s1)) := by
  have n10 : ¬ (1 : Int32) = 0 := by decide
  have h0 := h
  obtain ⟨a1, a2, ⟨qq, q3, b2⟩, hT, h25, -, -⟩ := h
  obtain ⟨t1, t2⟩ := rk_at (c := 45) hT a2 h25 (by decide)
  have t2 : f_X9_isAt 45 τ = if kd = 45 then 1 else 0 := t2
  obtain ⟨N1, hN1⟩ : ∃ z, N = z + 1 + 1 + 1 := ⟨N - 3, by omega⟩
  have vw := hT.2.2.2.2.1
  have hkd := hT.kd
  have tok := (hT.tok (by omega)).1
  have cP : (nI P).toNatClampNeg = P := nI_clamp (by omega)
  have vP : vp_in (nI P) 32 := vp_in_nI P32 (by decide)
  have hl := ly_q q3
  have ne : ∀ c, c < 400 → ¬ kd = c → ¬ σ.1 3 2 = nI c := fun c hc y z => by
    rw [hT.2.2.2.2.2.1] at z
    exact y ((nI_eq (by omega) (by omega)).mp z)
  have n59 : ¬ σ.1 3 2 = 59 := ne 59 (by decide) (by omega)
  -- heads 1, 2 of the reference for a state ρ at the number itself
  have h2 : ∀ (ρ : zS) (x3 : Int32), p_X9_numeral 0 9999 N ρ → q_X9_readGiven N (N1 + 1) 2 (nI P) 0 x3 ρ ∧ (¬ (r_X9_numeral 0 9999 N ρ).2.1 468 25 = 0 → l_X9_readGiven N (N1 + 1) 2 (nI P) 0 x3 ρ = (r_X9_numeral 0 9999 N ρ).2) ∧ ((r_X9_numeral 0 9999 N ρ).2.1 468 25 = 0 → l_X9_readGiven N (N1 + 1) 2 (nI P) 0 x3 ρ = zuI (r_X9_numeral 0 9999 N ρ).2 483 P (if x3 = 0 then (r_X9_numeral 0 9999 N ρ).1 else -((r_X9_numeral 0 9999 N ρ).1))) := fun ρ x3 hp => by
    have e2 : u_X9_readGiven_h2_1 N (nI P) 0 x3 ρ = (r_X9_numeral 0 9999 N ρ).2 := rfl
    refine ⟨?_, fun y => ?_, fun y => ?_⟩
    · rw [q_X9_readGiven]
      exact ⟨hp, fun _ => ⟨fun _ => vP, fun _ => vP⟩⟩
    · rw [l_X9_readGiven, e2, if_neg y]
    · rw [l_X9_readGiven, e2, if_pos y]
      unfold u_X9_readGiven_h2_2 u_X9_readGiven_h2_3
      rw [e2, cP]
      by_cases c : x3 = 0
      · rw [if_pos c, if_pos c]
      · rw [if_neg c, if_neg c]
  rcases kk with k | k
  · -- a number
    have t3 : τ.1 468 22 = 3 := tok.mpr k
    have k45 : ¬ σ.1 3 2 = 45 := ne 45 (by decide) (by omega)
    rw [if_neg (by omega)] at t2
    have en : τ.1 468 23 = nI w := by
      have h12 := hT.2.2.2.2.2.2.2.2.2.2.2
      unfold RK at h12
      rcases h12 with ⟨y1, y2⟩ | ⟨y1, y2⟩ | ⟨y1, y2, y3⟩ | ⟨y1, y2, y3⟩ | ⟨y1, y2, y3, y4⟩ | ⟨y1, y2, y3, y4⟩ <;> first | exact y3 | omega
    obtain ⟨z1, z2, z3⟩ := st_num (Z := fun _ => False) (lo := 0) (hi := 9999) h0 (by decide) (by decide) hN
    have er : r_X3_readTaskNumber (nI I) N σ = (if (r_X3_readNumber 0 9999 N σ).1 = 0 then (0, u_X3_readTaskNumber_1 (nI I) N σ) else (1, u_X3_readTaskNumber_2 (nI I) N σ)) := by
      unfold r_X3_readTaskNumber
      rw [if_neg n59, if_neg k45]
    have eC : r_X3_readNumber 0 9999 N σ = r_X3_readNumber (nI 0) (nI 9999) N σ := rfl
    have eD : r_X9_numeral 0 9999 N τ = r_X9_numeral (nI 0) (nI 9999) N τ := rfl
    rw [eC] at er
    obtain ⟨j1, j2, j3⟩ := h2 τ 0 z2
    rw [eD] at j2 j3
    by_cases cv : 9999 < v
    · have cw : ¬ nI w ≤ 9999 := nI_ge (a := 9999) (by unfold nRl at vw; omega) (by unfold nRl at vw; omega)
      rcases z3 with ⟨u1, u2, u3, u4⟩ | ⟨u1, u3, u4, x, l1, l2, u5, u6, hh⟩
      · have f2 : (s_X9_fail (nI 2) τ).1 468 25 = nI 2 := by rw [rf_fail h25, gI_n (by omega), gI_h rfl rfl]
        have nf : ¬ (s_X9_fail (nI 2) τ).1 468 25 = 0 := by rw [f2]; decide
        obtain ⟨g1, g2⟩ := rf_num_bad (N := N) (lo := 0) (hi := 9999) (c := 2) (by decide) (by decide) f2
        obtain ⟨i1, i2, -⟩ := h2 (s_X9_fail (nI 2) τ) 0 g1
        rw [g2] at i2
        have l0 : l_X9_readGiven N (N1 + 1 + 1 + 1) 0 (nI P) 0 0 (s_X9_fail (nI 2) τ) = s_X9_fail (nI 2) τ ∧ q_X9_readGiven N (N1 + 1 + 1 + 1) 0 (nI P) 0 0 (s_X9_fail (nI 2) τ) := by
          have q1' : q_X9_readGiven N (N1 + 1 + 1) 1 (nI P) 0 0 (s_X9_fail (nI 2) τ) := by
            rw [q_X9_readGiven]
            exact ⟨fun _ => i1, fun y => absurd rfl y⟩
          refine ⟨?_, ?_⟩
          · rw [l_X9_readGiven, if_pos rfl, l_X9_readGiven, if_pos rfl, i2 nf]
          · rw [q_X9_readGiven]
            exact ⟨fun _ => q1', fun y => absurd rfl y⟩
        rw [← hN1] at l0
        have eg : s_X9_readGiven (nI P) 0 N τ = s_X9_fail (nI 2) τ := by
          unfold s_X9_readGiven
          rw [if_pos t3, en, if_neg cw, t2]
          exact l0.1
        -- the class's fault is 2 too
        have c5 : σ.1 3 5 = nI v := hT.2.2.2.2.2.2.2.2.1 k
        obtain ⟨rn1, -⟩ := cl_rnum (N := N) (lo := 0) (hi := 9999) (show σ.1 3 2 = 302 by rw [hT.2.2.2.2.2.1, k]; rfl) c5 (by unfold nRl at vw; omega) (by decide) (by decide)
        obtain ⟨-, rn2⟩ := rn1 (Or.inr cv)
        obtain ⟨sl, h33, h21⟩ := h0.s1
        obtain ⟨f1, f2', f3⟩ := ft2 (q := q) (b := b) (Z := fun _ => False) (c := 2) (σ := σ) (by decide) (by decide) sl h33 (rf_fail (c := 2) h25) h21
        rw [er, if_pos u1, eg]
        have eu : u_X3_readTaskNumber_1 (nI I) N σ = zuI (zuI σ 2 2 (nI 2)) 2 3 (σ.1 3 3) := by
          unfold u_X3_readTaskNumber_1
          rw [eC, rn2]
          rfl
        rw [eu]
        refine ⟨?_, ⟨t1, fun y => absurd t3 y, fun _ => ⟨fun y => absurd y (by rw [en]; exact cw), fun _ => by rw [t2]; exact l0.2⟩⟩, Or.inl ⟨rfl, f1, gc_of f2', by rw [rf_fail h25]; exact (rfr.rf.uI (Or.inl ⟨rfl, by omega, by omega⟩)).uI (Or.inl ⟨rfl, by omega, by omega⟩)⟩⟩
        exact fun _ => ⟨fun _ => ⟨z1, fun y => absurd u1 y⟩, fun y => absurd y k45⟩
      · exfalso
        have c5 : σ.1 3 5 = nI v := hT.2.2.2.2.2.2.2.2.1 k
        obtain ⟨rn1, -⟩ := cl_rnum (N := N) (lo := 0) (hi := 9999) (show σ.1 3 2 = 302 by rw [hT.2.2.2.2.2.1, k]; rfl) c5 (by unfold nRl at vw; omega) (by decide) (by decide)
        obtain ⟨-, rn2⟩ := rn1 (Or.inr cv)
        rw [rn2] at u1
        exact absurd (show (0 : Int32) = 1 from u1) (by decide)
    · have cw : nI w ≤ 9999 := nI_le (b := 9999) (by unfold nRl at vw; omega) (by decide)
      have eg : s_X9_readGiven (nI P) 0 N τ = l_X9_readGiven N N 0 (nI P) 0 0 τ := by
        unfold s_X9_readGiven
        rw [if_pos t3, en, if_pos cw, t2]
      have q1' : q_X9_readGiven N (N1 + 1 + 1) 1 (nI P) 0 0 τ := by
        rw [q_X9_readGiven]
        exact ⟨fun _ => j1, fun y => absurd rfl y⟩
      have q0 : q_X9_readGiven N (N1 + 1 + 1 + 1) 0 (nI P) 0 0 τ := by
        rw [q_X9_readGiven]
        exact ⟨fun _ => q1', fun y => absurd rfl y⟩
      have l0 : l_X9_readGiven N (N1 + 1 + 1 + 1) 0 (nI P) 0 0 τ = l_X9_readGiven N (N1 + 1) 2 (nI P) 0 0 τ := by
        rw [l_X9_readGiven, if_pos rfl, l_X9_readGiven, if_pos rfl]
      rw [← hN1] at q0 l0
      have pg : p_X9_readGiven (nI P) 0 N τ := ⟨t1, fun y => absurd t3 y, fun _ => ⟨fun _ => by rw [t2]; exact q0, fun y => absurd (by rw [en]; exact cw) y⟩⟩
      rcases z3 with ⟨u1, u2, u3, u4⟩ | ⟨u1, u3, u4, x, l1, l2, u5, u6, s2, e2, kd2, v2, w2, g3, g4, -⟩
      · exfalso
        have c5 : σ.1 3 5 = nI v := hT.2.2.2.2.2.2.2.2.1 k
        obtain ⟨-, rn1⟩ := cl_rnum (N := N) (lo := 0) (hi := 9999) (show σ.1 3 2 = 302 by rw [hT.2.2.2.2.2.1, k]; rfl) c5 (by unfold nRl at vw; omega) (by decide) (by decide)
        obtain ⟨-, rn2⟩ := rn1 (by omega) (by omega)
        rw [rn2] at u1
        exact n10 u1
      · generalize hC : r_X3_readNumber (nI 0) (nI 9999) N σ = C at *
        generalize hD : r_X9_numeral (nI 0) (nI 9999) N τ = D at *
        have u1n : ¬ C.1 = 0 := by rw [u1]; exact n10
        have j3' := j3 g3.2.2.2.2.1
        rw [if_pos rfl] at j3'
        have eu1 : u_X3_readTaskNumber_1 (nI I) N σ = C.2 := by
          unfold u_X3_readTaskNumber_1
          rw [eC]
        have ec1 : C.2.2 2 1 - 1 = q := by rw [g3.2.2.1.1]; rfl
        have eu2 : u_X3_readTaskNumber_2 (nI I) N σ = zuI C.2 (q + 4) I (nI x) := by
          unfold u_X3_readTaskNumber_2
          rw [eu1, ec1, u5, put_i I16 (by decide)]
        rw [er, if_neg u1n, eu2, eg, l0, j3', u6]
        refine ⟨fun _ => ⟨fun _ => ⟨z1, fun _ => ?_⟩, fun y => absurd y k45⟩, pg, Or.inr ⟨rfl, nI x, ⟨gI_h rfl rfl, gI_h rfl rfl⟩, ?_, ?_, s2, e2, kd2, v2, w2, g3.set (by omega) (by omega), g4⟩⟩
        · rw [eu1, ec1]
          exact ⟨⟨by rw [g3.2.2.1.1]; omega, hl⟩, put_p (by decide)⟩
        · -- frames
          have c5 : σ.1 3 5 = nI v := hT.2.2.2.2.2.2.2.2.1 k
          obtain ⟨-, rn1⟩ := cl_rnum (N := N) (lo := 0) (hi := 9999) (show σ.1 3 2 = 302 by rw [hT.2.2.2.2.2.1, k]; rfl) c5 (by unfold nRl at vw; omega) (by decide) (by decide)
          obtain ⟨-, rn2⟩ := rn1 (by omega) (by omega)
          rw [hC] at rn2
          have hC1 : TC nb tx (zuI σ 2 5 (nI v)) := a1.eq (fun Q jx y => gI_n (by omega)) rfl
          obtain ⟨-, -, -, _, _, _, _, _, -, tt, -⟩ := pr_next (N := N) (p := e) hC1 a2 ((gI_n (by omega)).trans hT.2.2.2.2.2.2.2.1) hT.2.2.2.2.2.2.2.2.2.2.1 hT.2.1 (by omega)
          rw [rn2]
          exact ((rfr.rf.uI (Or.inr (Or.inl ⟨rfl, rfl⟩))).tr (tt.wk (fun Q j y => Or.inl y))).uI (Or.inr (Or.inr ⟨rfl, rfl⟩))
        · have : rfr (fun Q j => sTM Q j ∨ (Q = 483 ∧ j = P)) τ D.2 := by
            have zz := (ln_num (N := N) (lo := 0) (hi := 9999) a1 a2 hT h25 (by decide) (by decide) hN).2.2
            rw [hC, hD] at zz
            rcases zz with ⟨c, -, -, y1, -⟩ | ⟨-, -, -, -, y2, _, _, _, _, _, -, -, y3, -⟩
            · rw [y1] at u1n
              exact absurd rfl u1n
            · rw [y2]
              exact y3.wk (fun Q j y => Or.inl y)
          exact this.uI (Or.inr ⟨rfl, rfl⟩)
  · -- a - first
    have t3 : ¬ τ.1 468 22 = 3 := fun y => by have := tok.mp y; omega
    have k45 : σ.1 3 2 = 45 := by rw [hT.2.2.2.2.2.1, k]; rfl
    rw [if_pos k] at t2
    obtain ⟨n1, n2, n3, n4, s1, e1, kd1, v1, w1, h1, h1e⟩ := st_next h0 hN
    obtain ⟨z1, z2, z3⟩ := st_num (Z := fun _ => False) (lo := 0) (hi := 9999) h1 (by decide) (by decide) hN
    have zz := (ln_num (N := N) (lo := 0) (hi := 9999) h1.1 h1.2.1 h1.2.2.2.1 h1.2.2.2.2.1 (by decide) (by decide) hN).2.2
    have er : r_X3_readTaskNumber (nI I) N σ = (if (r_X3_readNumber (nI 0) (nI 9999) N (s_X6_next N σ)).1 = 0 then (0, u_X3_readTaskNumber_4 (nI I) N σ) else (1, u_X3_readTaskNumber_5 (nI I) N σ)) := by
      unfold r_X3_readTaskNumber
      rw [if_neg n59, if_pos k45]
      rfl
    obtain ⟨j1, j2, j3⟩ := h2 (s_X9_scan N τ) 1 z2
    have eD : r_X9_numeral 0 9999 N (s_X9_scan N τ) = r_X9_numeral (nI 0) (nI 9999) N (s_X9_scan N τ) := rfl
    rw [eD] at j2 j3
    have q1' : q_X9_readGiven N (N1 + 1 + 1) 1 (nI P) 0 1 τ := by
      rw [q_X9_readGiven]
      exact ⟨fun y => absurd y n10, fun _ => ⟨fun y => absurd h25 y, fun _ => ⟨n2, j1⟩⟩⟩
    have q0 : q_X9_readGiven N (N1 + 1 + 1 + 1) 0 (nI P) 0 1 τ := by
      rw [q_X9_readGiven]
      exact ⟨fun _ => q1', fun y => absurd rfl y⟩
    have l0 : l_X9_readGiven N (N1 + 1 + 1 + 1) 0 (nI P) 0 1 τ = l_X9_readGiven N (N1 + 1) 2 (nI P) 0 1 (s_X9_scan N τ) := by
      rw [l_X9_readGiven, if_pos rfl, l_X9_readGiven, if_neg n10, h25, if_pos rfl]
      rfl
    rw [← hN1] at q0 l0
    have eg : s_X9_readGiven (nI P) 0 N τ = l_X9_readGiven N (N1 + 1) 2 (nI P) 0 1 (s_X9_scan N τ) := by
      unfold s_X9_readGiven
      rw [if_neg t3, t2]
      exact l0
    have pg : p_X9_readGiven (nI P) 0 N τ := ⟨t1, fun _ => by rw [t2]; exact q0, fun y => absurd y t3⟩
    have eu4 : u_X3_readTaskNumber_4 (nI I) N σ = (r_X3_readNumber (nI 0) (nI 9999) N (s_X6_next N σ)).2 := rfl
    generalize hC : r_X3_readNumber (nI 0) (nI 9999) N (s_X6_next N σ) = C at *
    generalize hD : r_X9_numeral (nI 0) (nI 9999) N (s_X9_scan N τ) = D at *
    have hC' : r_X3_readNumber 0 9999 N (u_X3_readTaskNumber_3 (nI I) N σ) = C := hC
    have e1le := h1.2.2.2.1.1
    rcases z3 with ⟨u1, u2, u3, u4⟩ | ⟨u1, u3, u4, x, l1, l2, u5, u6, s2, e2, kd2, v2, w2, g3, g4, -⟩
    · have nf : ¬ D.2.1 468 25 = 0 := by
        obtain ⟨c, p, c1, c2, c3, c4, c5, c6, c7⟩ := u2
        rw [c6]
        exact nI_ne0 (by omega) (by omega)
      rw [er, if_pos u1, eu4, eg, j2 nf]
      refine ⟨fun _ => ⟨fun y => absurd k45 y, fun _ => ⟨n1, z1, fun y => absurd (by rw [hC']; exact u1) y⟩⟩, pg, Or.inl ⟨rfl, u2, gc_of ((rfr.zc n3).tr u3), ?_⟩⟩
      have w1' : rfr (sGm P) τ (s_X9_scan N τ) := n4.wk (fun Q j y => Or.inl ⟨y.1, y.2.1, by have := y.2.2; omega⟩)
      rcases zz with ⟨c, -, -, -, y2⟩ | ⟨-, -, -, y1, -⟩
      · have y2 : D.2 = zuI (zuI (s_X9_scan N τ) 468 25 (nI c)) 468 26 ((s_X9_scan N τ).1 468 21) := y2
        rw [y2]
        exact (w1'.uI (Or.inl ⟨rfl, by omega, by omega⟩)).uI (Or.inl ⟨rfl, by omega, by omega⟩)
      · rw [y1] at u1
        exact absurd u1 n10
    · have u1n : ¬ C.1 = 0 := by rw [u1]; exact n10
      have j3' := j3 g3.2.2.2.2.1
      rw [if_neg n10] at j3'
      have ec1 : C.2.2 2 1 - 1 = q := by rw [g3.2.2.1.1]; rfl
      have eu5 : u_X3_readTaskNumber_5 (nI I) N σ = zuI C.2 (q + 4) I (-(nI x)) := by
        unfold u_X3_readTaskNumber_5
        rw [eu4, ec1, u5, put_i I16 (by decide)]
      rw [er, if_neg u1n, eu5, eg, j3', u6]
      refine ⟨fun _ => ⟨fun y => absurd k45 y, fun _ => ⟨n1, z1, fun _ => ?_⟩⟩, pg, Or.inr ⟨rfl, -(nI x), ⟨gI_h rfl rfl, gI_h rfl rfl⟩, ?_, ?_, s2, e2, kd2, v2, w2, g3.set (by omega) (by omega), by omega⟩⟩
      · rw [eu4, ec1]
        exact ⟨⟨by rw [g3.2.2.1.1]; omega, hl⟩, put_p (by decide)⟩
      · rcases zz with ⟨c, -, -, y1, -⟩ | ⟨-, -, -, y1, -, _, _, _, _, _, -, y3, -, -⟩
        · rw [y1] at u1n
          exact absurd rfl u1n
        · rw [y1]
          have g0 : rfr (fun Q j => (Q = 3 ∧ 2 ≤ j ∧ j ≤ 5) ∨ (Q = 2 ∧ j = 5) ∨ (Q = q + 4 ∧ j = I)) σ (s_X6_next N σ) := n3.wk (fun Q j y => Or.inl y)
          exact ((g0.uI (Or.inr (Or.inl ⟨rfl, rfl⟩))).tr (y3.wk (fun Q j y => Or.inl y))).uI (Or.inr (Or.inr ⟨rfl, rfl⟩))
      · rcases zz with ⟨c, -, -, y1, -⟩ | ⟨-, -, -, -, y2, _, _, _, _, _, -, -, y3, -⟩
        · rw [y1] at u1n
          exact absurd rfl u1n
        · rw [y2]
          exact ((n4.wk (fun Q j y => Or.inl y)).tr (y3.wk (fun Q j y => Or.inl y))).uI (Or.inr ⟨rfl, rfl⟩)
end IS
