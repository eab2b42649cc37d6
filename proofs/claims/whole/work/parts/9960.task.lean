/-! the numbers of a task, one after the other -/
section IS
variable {N nb q b : Nat} {tx : Nat → Nat} {σ σ1 σ2 τ τ1 τ2 : zS}
/-- what the line of a task may change: with a fault, without -/
def sBc (q Q j : Nat) : Prop := (Q = 3 ∧ 2 ≤ j ∧ j ≤ 5) ∨ (Q = 2 ∧ 2 ≤ j ∧ j ≤ 5) ∨ Q = q + 4 ∨ Q = q + 3 ∨ (Q = q ∧ j = 7)
def sBm (b Q j : Nat) : Prop := (Q = 468 ∧ 20 ≤ j ∧ j ≤ 26) ∨ (Q = 483 ∧ 16 * b ≤ j ∧ j < 16 * b + 16) ∨ (Q = 482 ∧ 4 * b ≤ j ∧ j < 4 * b + 4) ∨ (Q = 477 ∧ j = b)
def sFc (q n Q j : Nat) : Prop := (Q = 3 ∧ 2 ≤ j ∧ j ≤ 5) ∨ (Q = 2 ∧ j = 5) ∨ (Q = q + 4 ∧ 4 * n ≤ j ∧ j < 4 * n + 4) ∨ (Q = q ∧ j = 7)
def sFm (b n Q j : Nat) : Prop := (Q = 468 ∧ 20 ≤ j ∧ j ≤ 24) ∨ (Q = 483 ∧ 4 * (4 * b + n) ≤ j ∧ j < 4 * (4 * b + n) + 4) ∨ (Q = 477 ∧ j = b)
def TKR (nb : Nat) (tx : Nat → Nat) (q b m e n : Nat) (r : Int32 × zS) (σ τ τ1 : zS) : Prop := (r.1 = 0 ∧ FT r.2 τ1 ∧ rfr (sBc q) σ r.2 ∧ rfr (sBm b) τ τ1) ∨ (r.1 = 1 ∧ rfr (sFc q n) σ r.2 ∧ rfr (sFm b n) τ τ1 ∧ r.2.1 q 7 = nI (n + 1) ∧ τ1.1 477 b = nI (n + 1) ∧ (∀ k, k < 4 → r.2.1 (q + 4) (n * 4 + k) = τ1.1 483 (4 * (4 * b + n) + k)) ∧ ∃ s1 e1 kd1 v1 w1, LNb nb tx q b m s1 e1 kd1 v1 w1 r.2 τ1 ∧ e ≤ s1)
/-- with a fault found it goes to its end -/
theorem tk_bad {c z : Nat} {v1 v2 v3 v4 : Int32} (h1 : 1 ≤ c) (h2 : c ≤ 5) (h0 : τ.1 468 25 = nI c) : q_X9_readTask N (z + 1 + 1 + 1) 3 v1 v2 v3 v4 τ ∧ l_X9_readTask N (z + 1 + 1 + 1) 3 v1 v2 v3 v4 τ = τ := by
  have n0 : ¬ τ.1 468 25 = 0 := by rw [h0]; exact nI_ne0 (by omega) (by omega)
  obtain ⟨a1, a2, -, -⟩ := rk_found (c := 59) n0
  have q6 : q_X9_readTask N (z + 1) 6 v1 v2 v3 v4 τ := by rw [q_X9_readTask]; exact fun y => absurd y n0
  have q5 : q_X9_readTask N (z + 1 + 1) 5 v1 v2 v3 v4 τ := by
    rw [q_X9_readTask, a1]
    exact ⟨a2, fun _ => q6, fun y => absurd rfl y⟩
  refine ⟨?_, ?_⟩
  · rw [q_X9_readTask]
    exact ⟨fun _ => q5, fun y => absurd y n0⟩
  · rw [l_X9_readTask, if_neg n0, l_X9_readTask, a1, if_pos rfl, l_X9_readTask, if_neg n0]
theorem tk_loop {m n f a : Nat} (n4 : n < 4) (f6 : f < 6) (a4 : a ≤ 4) (hN : 200000 < N) : ∀ (r i s e kd v w : Nat) (σ τ : zS), i + r = a → LNb nb tx q b m s e kd v w σ τ → σ.1 q 7 = nI n → τ.1 477 b = nI n → σ.1 (q + 2) f = nI a → τ.1 481 (6 * b + f) = nI a → (∀ k, k < 4 → (k < i ∨ a ≤ k) → σ.1 (q + 4) (n * 4 + k) = τ.1 483 (4 * (4 * b + n) + k)) → ∀ z, q_X3_readTask N (z + r + 1) (nI f) (nI i) σ ∧ ∀ z', 2 * r + 5 ≤ z' → q_X9_readTask N z' 3 (nI b) (nI f) (nI (4 * b + n)) (nI i) τ ∧ p_X9_need 59 N (l_X9_readTask N z' 3 (nI b) (nI f) (nI (4 * b + n)) (nI i) τ) ∧ TKR nb tx q b m e n (l_X3_readTask N (z + r + 1) (nI f) (nI i) σ) σ τ (s_X9_need 59 N (l_X9_readTask N z' 3 (nI b) (nI f) (nI (4 * b + n)) (nI i) τ)) := by
  have n10 : ¬ (1 : Int32) = 0 := by decide
  intro r
  induction r with
  | zero =>
    intro i s e kd v w σ τ hi h h7 h77 h2 h81 hEQ z
    obtain rfl : i = a := by omega
    have h0 := h
    obtain ⟨sl, h33, h21⟩ := h.s1
    obtain ⟨a1, a2, ⟨qq, q3, b2⟩, hT, h25, -, -⟩ := h
    have hkd := hT.kd
    have er : σ.2 2 1 - 1 = q := by rw [qq]; rfl
    have nz : σ.2 2 1 ≠ 0 := by rw [qq]; omega
    have ea : f_X8_at 6 (q + 2) (nI f) σ = nI i := by rw [at_i f6 (by decide), h2]
    have le : nI i ≤ nI i := nI_le (Nat.le_refl _) (by omega)
    have cb : (nI b).toNatClampNeg = b := nI_clamp (by omega)
    have vb : vp_in (nI b) 2 := vp_in_nI b2 (by decide)
    have e6 : (6 : Int32) * nI b + nI f = nI (6 * b + f) := by rw [show (6 : Int32) = nI 6 from rfl, pk_mul, nI_add]
    have v6 : vp_in (nI (6 * b + f)) 12 := vp_in_nI (by omega) (by decide)
    have c6 : (nI (6 * b + f)).toNatClampNeg = 6 * b + f := nI_clamp (by omega)
    have eu1 : u_X3_readTask_h0_1 N (nI f) (nI i) σ = zuI σ q 7 (nI (n + 1)) := by
      unfold u_X3_readTask_h0_1
      rw [er, h7, nI_1]
    have ne : ∀ c, c < 400 → ¬ kd = c → ¬ (zuI σ q 7 (nI (n + 1))).1 3 2 = nI c := fun c hc y z => by
      rw [gI_n (by omega), hT.2.2.2.2.2.1] at z
      exact y ((nI_eq (by omega) (by omega)).mp z)
    have h1 : LNb nb tx q b m s e kd v w (zuI σ q 7 (nI (n + 1))) (zuI τ 477 b (nI (n + 1))) := h0.set (by omega) (by omega)
    have h3z : (zuI σ q 7 (nI (n + 1))).1 3 3 = σ.1 3 3 := gI_n (by omega)
    have el : l_X3_readTask N (z + 0 + 1) (nI f) (nI i) σ = ((r_X3_readTaskEnd N (zuI σ q 7 (nI (n + 1)))).1, (r_X3_readTaskEnd N (zuI σ q 7 (nI (n + 1)))).2) := by
      rw [l_X3_readTask, er, ea, if_pos le]
      unfold u_X3_readTask_h0_2
      rw [eu1]
    have ql : p_X3_readTaskEnd N (zuI σ q 7 (nI (n + 1))) → q_X3_readTask N (z + 0 + 1) (nI f) (nI i) σ := fun y => by
      rw [q_X3_readTask, er, ea, eu1]
      exact ⟨⟨nz, ly_q q3⟩, at_p (by decide), fun _ => y, fun y => absurd le y⟩
    obtain ⟨t1, t2⟩ := rk_at (c := 45) hT a2 h25 (by decide)
    have t2 : f_X9_isAt 45 τ = if kd = 45 then 1 else 0 := t2
    obtain ⟨t3, t4⟩ := rk_at (c := 59) hT a2 h25 (by decide)
    have t4 : f_X9_isAt 59 τ = if kd = 59 then 1 else 0 := t4
    have tok := (hT.tok (by omega)).1
    have fc7 : rfr (sBc q) σ (zuI σ q 7 (nI (n + 1))) := rfr.rf.uI (Or.inr (Or.inr (Or.inr (Or.inr ⟨rfl, rfl⟩))))
    by_cases kk : kd = 302 ∨ kd = 45
    · -- one too many
      obtain ⟨c, hc, g1, g2⟩ := rg_many (P := 4 * (4 * b + n) + i) h0 kk hN
      have c15 : 1 ≤ c ∧ c ≤ 5 := by omega
      have g25 : (s_X9_readGiven (nI (4 * (4 * b + n) + i)) 1 N τ).1 468 25 = nI c := by
        unfold FLm at g2
        rw [g2, gI_n (by omega), gI_h rfl rfl]
      obtain ⟨f1, f2, f3⟩ := ft2 (q := q) (b := b) (Z := fun _ => False) (c := c) (σ := zuI σ q 7 (nI (n + 1))) c15.1 c15.2 sl (h3z.trans h33) g2 h21
      have rE : r_X3_readTaskEnd N (zuI σ q 7 (nI (n + 1))) = (0, zuI (zuI (zuI σ q 7 (nI (n + 1))) 2 2 (nI c)) 2 3 ((zuI σ q 7 (nI (n + 1))).1 3 3)) := by
        unfold r_X3_readTaskEnd
        by_cases k : kd = 45
        · have k0 : (zuI σ q 7 (nI (n + 1))).1 3 2 = 45 := by rw [gI_n (by omega), hT.2.2.2.2.2.1, k]; rfl
          rw [if_pos k0, show c = 5 by omega]
          rfl
        · have k0 : ¬ (zuI σ q 7 (nI (n + 1))).1 3 2 = 45 := ne 45 (by decide) k
          have k1 : (zuI σ q 7 (nI (n + 1))).1 3 2 = 302 := by rw [gI_n (by omega), hT.2.2.2.2.2.1, show kd = 302 by omega]; rfl
          have k5 : (zuI σ q 7 (nI (n + 1))).1 3 5 = nI v := by rw [gI_n (by omega)]; exact hT.2.2.2.2.2.2.2.2.1 (by omega)
          have vw := hT.2.2.2.2.1
          rw [if_neg k0, if_pos k1, k5]
          by_cases cv : 9999 < v
          · rw [if_neg (show ¬ nI v ≤ 9999 from nI_ge (a := 9999) (by omega) (by unfold nRl at vw; omega)), show c = 2 by omega]
            rfl
          · rw [if_pos (show nI v ≤ 9999 from nI_le (b := 9999) (by omega) (by decide)), show c = 5 by omega]
            rfl
      refine ⟨ql ?_, fun z' hz' => ?_⟩
      · intro y1 y2
        exfalso
        rcases kk with k | k
        · exact y2 (by rw [gI_n (by omega), hT.2.2.2.2.2.1, k]; rfl)
        · exact y1 (by rw [gI_n (by omega), hT.2.2.2.2.2.1, k]; rfl)
      · obtain ⟨z1, rfl⟩ : ∃ y, z' = y + 1 + 1 + 1 + 1 + 1 := ⟨z' - 5, by omega⟩
        obtain ⟨d1, d2⟩ := tk_bad (N := N) (z := z1) (v1 := nI b) (v2 := nI f) (v3 := nI (4 * b + n)) (v4 := nI (i + 1)) c15.1 c15.2 g25
        have ei : ((4 : Int32) * nI (4 * b + n) + (nI i + 1)) - 1 = nI (4 * (4 * b + n) + i) := by
          rw [show (4 : Int32) = nI 4 from rfl, pk_mul, nI_1, nI_add, nI_s1 (by omega)]
          rfl
        have nle : ¬ nI i + 1 ≤ nI i := by
          rw [nI_1]
          exact nI_ge (by omega) (by omega)
        have e42 : u_X9_readTask_h4_2 N (nI b) (nI f) (nI (4 * b + n)) (nI i) τ = s_X9_readGiven (nI (4 * (4 * b + n) + i)) 1 N τ := by
          unfold u_X9_readTask_h4_2
          rw [ei]
        have l4 : l_X9_readTask N (z1 + 1 + 1 + 1 + 1) 4 (nI b) (nI f) (nI (4 * b + n)) (nI i) τ = s_X9_readGiven (nI (4 * (4 * b + n) + i)) 1 N τ := by
          rw [l_X9_readTask, e6, c6, h81, if_neg nle, e42, nI_1, d2]
        have q4 : q_X9_readTask N (z1 + 1 + 1 + 1 + 1) 4 (nI b) (nI f) (nI (4 * b + n)) (nI i) τ := by
          rw [q_X9_readTask, e6, c6, h81, ei, e42, nI_1]
          exact ⟨v6, fun y => absurd y (by rw [← nI_1]; exact nle), fun _ => ⟨g1, d1⟩⟩
        have l3 : l_X9_readTask N (z1 + 1 + 1 + 1 + 1 + 1) 3 (nI b) (nI f) (nI (4 * b + n)) (nI i) τ = s_X9_readGiven (nI (4 * (4 * b + n) + i)) 1 N τ := by
          rw [l_X9_readTask, h25, if_pos rfl]
          by_cases k : kd = 302
          · rw [if_pos (tok.mpr k), l4]
          · rw [if_neg (fun y => k (tok.mp y)), t2, if_pos (kk.resolve_left k), if_neg n10, l4]
        have q3' : q_X9_readTask N (z1 + 1 + 1 + 1 + 1 + 1) 3 (nI b) (nI f) (nI (4 * b + n)) (nI i) τ := by
          rw [q_X9_readTask]
          exact ⟨fun y => absurd h25 y, fun _ => ⟨fun _ => q4, fun _ => ⟨t1, fun y => by
            rw [t2] at y
            exfalso
            rename_i y0
            rcases kk with k | k
            · exact y0 (tok.mpr k)
            · rw [if_pos k] at y
              exact n10 y, fun _ => q4⟩⟩⟩
        rw [l3, el, rE]
        obtain ⟨cc, pp, c1, c2, c3, c4, c5, c6', c7⟩ := f1
        obtain ⟨w1, w2⟩ := rf_need_bad (N := N) (x := 59) c1 c2 c6'
        rw [w2]
        refine ⟨q3', w1, Or.inl ⟨rfl, ⟨cc, pp, c1, c2, c3, c4, c5, c6', c7⟩, fc7.tr (f2.wk (fun Q j y => y.elim Or.inl (fun y => y.elim (fun y => Or.inr (Or.inl y)) (fun y => absurd y.2.2 (fun z => z))))), ?_⟩⟩
        unfold FLm at g2
        rw [g2]
        exact (rfr.rf.uI (Or.inl ⟨rfl, by omega, by omega⟩)).uI (Or.inl ⟨rfl, by omega, by omega⟩)
    · -- the end
      have k3 : ¬ τ.1 468 22 = 3 := fun y => kk (Or.inl (tok.mp y))
      rw [if_neg (fun y => kk (Or.inr y))] at t2
      have rE : r_X3_readTaskEnd N (zuI σ q 7 (nI (n + 1))) = r_X3_readSign 59 N (zuI σ q 7 (nI (n + 1))) := by
        unfold r_X3_readTaskEnd
        rw [if_neg (show ¬ (zuI σ q 7 (nI (n + 1))).1 3 2 = 45 from ne 45 (by decide) (fun y => kk (Or.inr y))), if_neg (show ¬ (zuI σ q 7 (nI (n + 1))).1 3 2 = 302 from ne 302 (by decide) (fun y => kk (Or.inl y)))]
        rfl
      obtain ⟨w1, w2, w3⟩ := st_sign (Z := fun _ => False) (c := 59) h1 (by decide) hN
      refine ⟨ql (fun _ _ => w1), fun z' hz' => ?_⟩
      obtain ⟨z1, rfl⟩ : ∃ y, z' = y + 1 + 1 + 1 := ⟨z' - 3, by omega⟩
      have e61 : u_X9_readTask_h6_1 N (nI b) (nI f) (nI (4 * b + n)) (nI i) τ = zuI τ 477 b (nI (n + 1)) := by
        unfold u_X9_readTask_h6_1
        rw [cb, h77, nI_1]
      have l6 : l_X9_readTask N (z1 + 1) 6 (nI b) (nI f) (nI (4 * b + n)) (nI i) τ = zuI τ 477 b (nI (n + 1)) := by
        rw [l_X9_readTask, h25, if_pos rfl, e61]
      have q6 : q_X9_readTask N (z1 + 1) 6 (nI b) (nI f) (nI (4 * b + n)) (nI i) τ := by
        rw [q_X9_readTask]
        exact fun _ => vb
      have l3 : l_X9_readTask N (z1 + 1 + 1 + 1) 3 (nI b) (nI f) (nI (4 * b + n)) (nI i) τ = zuI τ 477 b (nI (n + 1)) := by
        rw [l_X9_readTask, h25, if_pos rfl, if_neg k3, t2, if_pos rfl, l_X9_readTask, e6, c6, h81, if_pos le, l6]
        split <;> rfl
      have q3' : q_X9_readTask N (z1 + 1 + 1 + 1) 3 (nI b) (nI f) (nI (4 * b + n)) (nI i) τ := by
        have q5 : q_X9_readTask N (z1 + 1 + 1) 5 (nI b) (nI f) (nI (4 * b + n)) (nI i) τ := by
          rw [q_X9_readTask, e6, c6, h81]
          exact ⟨t3, fun _ => q6, fun _ => ⟨v6, fun _ => q6, fun y => absurd le y⟩⟩
        rw [q_X9_readTask, t2]
        exact ⟨fun y => absurd h25 y, fun _ => ⟨fun y => absurd y k3, fun _ => ⟨t1, fun _ => q5, fun y => absurd rfl y⟩⟩⟩
      have w2 : p_X9_need 59 N (zuI τ 477 b (nI (n + 1))) := w2
      rw [l3, el, rE]
      refine ⟨q3', w2, ?_⟩
      rcases w3 with ⟨x1, x2, x3, x4⟩ | ⟨x1, x3, x4, s3, e3, kd3, v3, w3, g6, g7⟩
      · left
        refine ⟨x1, x2, fc7.tr (x3.wk (fun Q j y => y.elim Or.inl (fun y => y.elim (fun y => Or.inr (Or.inl y)) (fun y => absurd y.2.2 (fun z => z))))), ?_⟩
        have zz := (ln_sign (N := N) (c := 59) h1.1 h1.2.1 h1.2.2.2.1 h1.2.2.2.2.1 (by decide) hN).2.2
        have f77 : rfr (sBm b) τ (zuI τ 477 b (nI (n + 1))) := rfr.rf.uI (Or.inr (Or.inr (Or.inr ⟨rfl, rfl⟩)))
        rcases zz with ⟨-, -, y⟩ | ⟨-, y, -⟩
        · unfold FLm at y
          have y : s_X9_need 59 N (zuI τ 477 b (nI (n + 1))) = _ := y
          rw [y]
          exact (f77.uI (Or.inl ⟨rfl, by omega, by omega⟩)).uI (Or.inl ⟨rfl, by omega, by omega⟩)
        · rw [y] at x1
          exact absurd (show (1 : Int32) = 0 from x1) n10
      · right
        have x3 : rfr sTC (zuI σ q 7 (nI (n + 1))) (r_X3_readSign 59 N (zuI σ q 7 (nI (n + 1)))).2 := x3
        have x4 : rfr sTM (zuI τ 477 b (nI (n + 1))) (s_X9_need 59 N (zuI τ 477 b (nI (n + 1)))) := x4
        refine ⟨x1, (rfr.rf.uI (Or.inr (Or.inr (Or.inr ⟨rfl, rfl⟩)))).tr (x3.wk (fun Q j y => Or.inl y)), (rfr.rf.uI (Or.inr (Or.inr ⟨rfl, rfl⟩))).tr (x4.wk (fun Q j y => Or.inl y)), ?_, ?_, fun k hk => ?_, s3, e3, kd3, v3, w3, g6, g7⟩
        · rw [x3.2 _ _ (fun z => by unfold sTC at z; omega)]; exact gI_h rfl rfl
        · rw [x4.2 _ _ (fun z => by unfold sTM at z; omega)]; exact gI_h rfl rfl
        · rw [x3.2 _ _ (fun z => by unfold sTC at z; omega), gI_n (by omega), x4.2 _ _ (fun z => by unfold sTM at z; omega), gI_n (by omega)]
          exact hEQ k hk (by omega)
  | succ r ih =>
    intro i s e kd v w σ τ hi h h7 h77 h2 h81 hEQ z
    have h0 := h
    obtain ⟨sl, h33, h21⟩ := h.s1
    obtain ⟨a1, a2, ⟨qq, q3, b2⟩, hT, h25, -, -⟩ := h
    have hkd := hT.kd
    have er : σ.2 2 1 - 1 = q := by rw [qq]; rfl
    have nz : σ.2 2 1 ≠ 0 := by rw [qq]; omega
    have ea : f_X8_at 6 (q + 2) (nI f) σ = nI a := by rw [at_i f6 (by decide), h2]
    have nle : ¬ nI a ≤ nI i := nI_ge (by omega) (by omega)
    have cb : (nI b).toNatClampNeg = b := nI_clamp (by omega)
    have vb : vp_in (nI b) 2 := vp_in_nI b2 (by decide)
    have e6 : (6 : Int32) * nI b + nI f = nI (6 * b + f) := by rw [show (6 : Int32) = nI 6 from rfl, pk_mul, nI_add]
    have v6 : vp_in (nI (6 * b + f)) 12 := vp_in_nI (by omega) (by decide)
    have c6 : (nI (6 * b + f)).toNatClampNeg = 6 * b + f := nI_clamp (by omega)
    have eI : (σ.1 q 7 * 4) + nI i = nI (n * 4 + i) := by rw [h7, show (4 : Int32) = nI 4 from rfl, pk_mul, nI_add]
    have ne : ∀ c, c < 400 → ¬ kd = c → ¬ σ.1 3 2 = nI c := fun c hc y z => by
      rw [hT.2.2.2.2.2.1] at z
      exact y ((nI_eq (by omega) (by omega)).mp z)
    obtain ⟨t1, t2⟩ := rk_at (c := 45) hT a2 h25 (by decide)
    have t2 : f_X9_isAt 45 τ = if kd = 45 then 1 else 0 := t2
    obtain ⟨t3, t4⟩ := rk_at (c := 59) hT a2 h25 (by decide)
    have t4 : f_X9_isAt 59 τ = if kd = 59 then 1 else 0 := t4
    have tok := (hT.tok (by omega)).1
    have el : l_X3_readTask N (z + (r + 1) + 1) (nI f) (nI i) σ = (if (r_X3_readTaskNumber (nI (n * 4 + i)) N σ).1 = 0 then (0, (r_X3_readTaskNumber (nI (n * 4 + i)) N σ).2) else l_X3_readTask N (z + r + 1) (nI f) (nI (i + 1)) (r_X3_readTaskNumber (nI (n * 4 + i)) N σ).2) := by
      rw [show z + (r + 1) + 1 = (z + r + 1) + 1 by omega, l_X3_readTask, er, ea, if_neg nle, eI, nI_1]
      unfold u_X3_readTask_h0_3
      rw [er, eI]
    have ql : p_X3_readTaskNumber (nI (n * 4 + i)) N σ → (¬ (r_X3_readTaskNumber (nI (n * 4 + i)) N σ).1 = 0 → q_X3_readTask N (z + r + 1) (nI f) (nI (i + 1)) (r_X3_readTaskNumber (nI (n * 4 + i)) N σ).2) → q_X3_readTask N (z + (r + 1) + 1) (nI f) (nI i) σ := fun y1 y2 => by
      rw [show z + (r + 1) + 1 = (z + r + 1) + 1 by omega, q_X3_readTask, er, ea, eI, nI_1]
      unfold u_X3_readTask_h0_3
      rw [er, eI]
      exact ⟨⟨nz, ly_q q3⟩, at_p (by decide), fun y => absurd y nle, fun _ => ⟨y1, y2⟩⟩
    by_cases kk : kd = 302 ∨ kd = 45
    · obtain ⟨g1, g2, g3⟩ := tk_num (P := 4 * (4 * b + n) + i) (I := n * 4 + i) h0 kk (by omega) (by omega) hN
      have ei : ((4 : Int32) * nI (4 * b + n) + (nI i + 1)) - 1 = nI (4 * (4 * b + n) + i) := by
        rw [show (4 : Int32) = nI 4 from rfl, pk_mul, nI_1, nI_add, nI_s1 (by omega)]
        rfl
      have le : nI i + 1 ≤ nI a := by
        rw [nI_1]
        exact nI_le (by omega) (by omega)
      have e41 : u_X9_readTask_h4_1 N (nI b) (nI f) (nI (4 * b + n)) (nI i) τ = s_X9_readGiven (nI (4 * (4 * b + n) + i)) 0 N τ := by
        unfold u_X9_readTask_h4_1
        rw [ei]
      have l3 : ∀ z1, l_X9_readTask N (z1 + 1 + 1) 3 (nI b) (nI f) (nI (4 * b + n)) (nI i) τ = l_X9_readTask N z1 3 (nI b) (nI f) (nI (4 * b + n)) (nI (i + 1)) (s_X9_readGiven (nI (4 * (4 * b + n) + i)) 0 N τ) := fun z1 => by
        have l4 : l_X9_readTask N (z1 + 1) 4 (nI b) (nI f) (nI (4 * b + n)) (nI i) τ = l_X9_readTask N z1 3 (nI b) (nI f) (nI (4 * b + n)) (nI (i + 1)) (s_X9_readGiven (nI (4 * (4 * b + n) + i)) 0 N τ) := by
          rw [l_X9_readTask, e6, c6, h81, if_pos le, e41, nI_1]
        rw [l_X9_readTask, h25, if_pos rfl]
        by_cases k : kd = 302
        · rw [if_pos (tok.mpr k), l4]
        · rw [if_neg (fun y => k (tok.mp y)), t2, if_pos (kk.resolve_left k), if_neg n10, l4]
      have q3' : ∀ z1, q_X9_readTask N z1 3 (nI b) (nI f) (nI (4 * b + n)) (nI (i + 1)) (s_X9_readGiven (nI (4 * (4 * b + n) + i)) 0 N τ) → q_X9_readTask N (z1 + 1 + 1) 3 (nI b) (nI f) (nI (4 * b + n)) (nI i) τ := fun z1 y => by
        have q4 : q_X9_readTask N (z1 + 1) 4 (nI b) (nI f) (nI (4 * b + n)) (nI i) τ := by
          rw [q_X9_readTask, e6, c6, h81, ei, e41, nI_1]
          exact ⟨v6, fun _ => ⟨g2, y⟩, fun y => absurd (by rw [← nI_1]; exact le) y⟩
        rw [q_X9_readTask]
        refine ⟨fun y => absurd h25 y, fun _ => ⟨fun _ => q4, fun y0 => ⟨t1, fun y => ?_, fun _ => q4⟩⟩⟩
        exfalso
        rw [t2] at y
        rcases kk with k | k
        · exact y0 (tok.mpr k)
        · rw [if_pos k] at y
          exact n10 y
      generalize hA : r_X3_readTaskNumber (nI (n * 4 + i)) N σ = A at *
      generalize hB : s_X9_readGiven (nI (4 * (4 * b + n) + i)) 0 N τ = B at *
      rcases g3 with ⟨u1, u2, u3, u4⟩ | ⟨u1, x, ⟨u2, u3⟩, u4, u5, s2, e2, kd2, v2, w2, g4, g5⟩
      · refine ⟨ql g1 (fun y => absurd u1 y), fun z' hz' => ?_⟩
        obtain ⟨z1, rfl⟩ : ∃ y, z' = y + 1 + 1 + 1 + 1 + 1 := ⟨z' - 5, by omega⟩
        obtain ⟨cc, pp, c1, c2, c3, c4, c5, c6', c7⟩ := u2
        obtain ⟨d1, d2⟩ := tk_bad (N := N) (z := z1) (v1 := nI b) (v2 := nI f) (v3 := nI (4 * b + n)) (v4 := nI (i + 1)) c1 c2 c6'
        obtain ⟨w1, w2⟩ := rf_need_bad (N := N) (x := 59) c1 c2 c6'
        rw [l3, d2, w2, el, if_pos u1]
        exact ⟨q3' _ d1, w1, Or.inl ⟨rfl, ⟨cc, pp, c1, c2, c3, c4, c5, c6', c7⟩, u3.wk (fun Q j y => y.elim Or.inl (fun y => Or.inr (y.elim Or.inl (fun y => Or.inr (Or.inl y))))), u4.wk (fun Q j y => y.elim Or.inl (fun y => Or.inr (Or.inl ⟨y.1, by omega, by omega⟩)))⟩⟩
      · have u1n : ¬ A.1 = 0 := by rw [u1]; exact n10
        have oA : ∀ Q j, ¬ ((Q = 3 ∧ 2 ≤ j ∧ j ≤ 5) ∨ (Q = 2 ∧ j = 5) ∨ (Q = q + 4 ∧ j = n * 4 + i)) → A.2.1 Q j = σ.1 Q j := u4.2
        have oB : ∀ Q j, ¬ ((Q = 468 ∧ 20 ≤ j ∧ j ≤ 24) ∨ (Q = 483 ∧ j = 4 * (4 * b + n) + i)) → B.1 Q j = τ.1 Q j := u5.2
        have fA : rfr (sFc q n) σ A.2 := u4.wk (fun Q j y => y.elim Or.inl (fun y => y.elim (fun y => Or.inr (Or.inl y)) (fun y => Or.inr (Or.inr (Or.inl ⟨y.1, by omega, by omega⟩)))))
        have fB : rfr (sFm b n) τ B := u5.wk (fun Q j y => y.elim Or.inl (fun y => Or.inr (Or.inl ⟨y.1, by omega, by omega⟩)))
        have fA' : rfr (sBc q) σ A.2 := u4.wk (fun Q j y => y.elim Or.inl (fun y => y.elim (fun y => Or.inr (Or.inl ⟨y.1, by omega, by omega⟩)) (fun y => Or.inr (Or.inr (Or.inl y.1)))))
        have fB' : rfr (sBm b) τ B := u5.wk (fun Q j y => y.elim (fun y => Or.inl ⟨y.1, y.2.1, by have := y.2.2; omega⟩) (fun y => Or.inr (Or.inl ⟨y.1, by omega, by omega⟩)))
        have e12 := g4.2.2.2.1.1
        obtain ⟨i1, i2⟩ := ih (i + 1) s2 e2 kd2 v2 w2 A.2 B (by omega) g4 ((oA _ _ (by omega)).trans h7) ((oB _ _ (by omega)).trans h77) ((oA _ _ (by omega)).trans h2) ((oB _ _ (by omega)).trans h81) (fun k hk c => by
          by_cases ck : k = i
          · rw [ck, u2, u3]
          · rw [oA _ _ (by omega), oB _ _ (by omega)]
            exact hEQ k hk (by omega)) z
        refine ⟨ql g1 (fun _ => i1), fun z' hz' => ?_⟩
        obtain ⟨z1, rfl⟩ : ∃ y, z' = y + 1 + 1 := ⟨z' - 2, by omega⟩
        obtain ⟨j1, j2, j3⟩ := i2 z1 (by omega)
        rw [l3, el, if_neg u1n]
        refine ⟨q3' _ j1, j2, ?_⟩
        rcases j3 with ⟨x1, x2, x3, x4⟩ | ⟨x1, x2, x3, x4, x5, x6, s3, e3, kd3, v3, w3, x7, x8⟩
        · exact Or.inl ⟨x1, x2, fA'.tr x3, fB'.tr x4⟩
        · exact Or.inr ⟨x1, fA.tr x2, fB.tr x3, x4, x5, x6, s3, e3, kd3, v3, w3, x7, by omega⟩
    · -- no number there
      have k3 : ¬ τ.1 468 22 = 3 := fun y => kk (Or.inl (tok.mp y))
      rw [if_neg (fun y => kk (Or.inr y))] at t2
      have n45 : ¬ σ.1 3 2 = 45 := ne 45 (by decide) (fun y => kk (Or.inr y))
      have n302 : ¬ σ.1 3 2 = 302 := ne 302 (by decide) (fun y => kk (Or.inl y))
      have q5q3 : ∀ z1, q_X9_readTask N (z1 + 1 + 1) 5 (nI b) (nI f) (nI (4 * b + n)) (nI i) τ → q_X9_readTask N (z1 + 1 + 1 + 1) 3 (nI b) (nI f) (nI (4 * b + n)) (nI i) τ := fun z1 y => by
        rw [q_X9_readTask, t2]
        exact ⟨fun y => absurd h25 y, fun _ => ⟨fun y => absurd y k3, fun _ => ⟨t1, fun _ => y, fun y => absurd rfl y⟩⟩⟩
      by_cases k59 : kd = 59
      · have k0 : σ.1 3 2 = 59 := by rw [hT.2.2.2.2.2.1, k59]; rfl
        rw [if_pos k59] at t4
        have rA : r_X3_readTaskNumber (nI (n * 4 + i)) N σ = (0, zuI (zuI σ 2 2 (nI 5)) 2 3 (σ.1 3 3)) := by
          unfold r_X3_readTaskNumber
          rw [if_pos k0]
          rfl
        have fl : FLm 5 τ (s_X9_fail (nI 5) τ) := rf_fail h25
        obtain ⟨f1, f2, f3⟩ := ft2 (q := q) (b := b) (Z := fun _ => False) (c := 5) (σ := σ) (by decide) (by decide) sl h33 fl h21
        have n5 : ¬ (s_X9_fail (nI 5) τ).1 468 25 = 0 := by rw [rf_fail h25, gI_n (by omega), gI_h rfl rfl]; decide
        refine ⟨ql (fun y => absurd k0 y) (fun y => absurd (by rw [rA]) y), fun z' hz' => ?_⟩
        obtain ⟨z1, rfl⟩ : ∃ y, z' = y + 1 + 1 + 1 := ⟨z' - 3, by omega⟩
        have l3 : l_X9_readTask N (z1 + 1 + 1 + 1) 3 (nI b) (nI f) (nI (4 * b + n)) (nI i) τ = s_X9_fail (nI 5) τ := by
          rw [l_X9_readTask, h25, if_pos rfl, if_neg k3, t2, if_pos rfl, l_X9_readTask, t4, if_neg n10, e6, c6, h81, if_neg nle, l_X9_readTask, if_neg (show ¬ (u_X9_readTask_h5_1 N (nI b) (nI f) (nI (4 * b + n)) (nI i) τ).1 468 25 = 0 from n5)]
          rfl
        have q5 : q_X9_readTask N (z1 + 1 + 1) 5 (nI b) (nI f) (nI (4 * b + n)) (nI i) τ := by
          rw [q_X9_readTask, t4, e6, c6, h81]
          refine ⟨t3, fun y => absurd y n10, fun _ => ⟨v6, fun y => absurd y nle, fun _ => ?_⟩⟩
          rw [q_X9_readTask]
          exact fun y => absurd y n5
        obtain ⟨cc, pp, c1, c2, c3, c4, c5, c6', c7⟩ := f1
        obtain ⟨w1, w2⟩ := rf_need_bad (N := N) (x := 59) c1 c2 c6'
        rw [l3, w2, el, rA, if_pos rfl]
        refine ⟨q5q3 _ q5, w1, Or.inl ⟨rfl, ⟨cc, pp, c1, c2, c3, c4, c5, c6', c7⟩, f2.wk (fun Q j y => y.elim Or.inl (fun y => y.elim (fun y => Or.inr (Or.inl y)) (fun y => absurd y.2.2 (fun z => z)))), ?_⟩⟩
        rw [rf_fail h25]
        exact (rfr.rf.uI (Or.inl ⟨rfl, by omega, by omega⟩)).uI (Or.inl ⟨rfl, by omega, by omega⟩)
      · have k0 : ¬ σ.1 3 2 = 59 := ne 59 (by decide) k59
        rw [if_neg k59] at t4
        have rN : r_X3_readNumber 0 9999 N σ = (0, zuI (zuI σ 2 2 (nI 1)) 2 3 (σ.1 3 3)) := by
          unfold r_X3_readNumber
          rw [if_neg n302]
          rfl
        have rA : r_X3_readTaskNumber (nI (n * 4 + i)) N σ = (0, zuI (zuI σ 2 2 (nI 1)) 2 3 (σ.1 3 3)) := by
          unfold r_X3_readTaskNumber u_X3_readTaskNumber_1
          rw [if_neg k0, if_neg n45, rN, if_pos rfl]
        have h1 : LNb nb tx q b m s e kd v w σ (zuI τ 477 b (nI (n + 1))) := h0.eq (fun _ _ _ => rfl) rfl (fun Q j y => gI_n (by omega))
        refine ⟨ql (fun _ => ⟨fun _ => ⟨fun y => absurd y n302, fun y => absurd (by rw [rN]) y⟩, fun y => absurd y n45⟩) (fun y => absurd (by rw [rA]) y), fun z' hz' => ?_⟩
        obtain ⟨z1, rfl⟩ : ∃ y, z' = y + 1 + 1 + 1 := ⟨z' - 3, by omega⟩
        have e61 : u_X9_readTask_h6_1 N (nI b) (nI f) (nI (4 * b + n)) (nI i) τ = zuI τ 477 b (nI (n + 1)) := by
          unfold u_X9_readTask_h6_1
          rw [cb, h77, nI_1]
        have l3 : l_X9_readTask N (z1 + 1 + 1 + 1) 3 (nI b) (nI f) (nI (4 * b + n)) (nI i) τ = zuI τ 477 b (nI (n + 1)) := by
          rw [l_X9_readTask, h25, if_pos rfl, if_neg k3, t2, if_pos rfl, l_X9_readTask, t4, if_pos rfl, l_X9_readTask, h25, if_pos rfl, e61]
        have q5 : q_X9_readTask N (z1 + 1 + 1) 5 (nI b) (nI f) (nI (4 * b + n)) (nI i) τ := by
          rw [q_X9_readTask, t4]
          refine ⟨t3, fun _ => ?_, fun y => absurd rfl y⟩
          rw [q_X9_readTask]
          exact fun _ => vb
        obtain ⟨w1, w2, w3⟩ := ln_sign (N := N) (c := 59) h1.1 h1.2.1 h1.2.2.2.1 h1.2.2.2.2.1 (by decide) hN
        have w2 : p_X9_need 59 N (zuI τ 477 b (nI (n + 1))) := w2
        rw [l3, el, rA, if_pos rfl]
        refine ⟨q5q3 _ q5, w2, Or.inl ?_⟩
        rcases w3 with ⟨-, -, y⟩ | ⟨y, -⟩
        · have y : FLm 1 (zuI τ 477 b (nI (n + 1))) (s_X9_need 59 N (zuI τ 477 b (nI (n + 1)))) := y
          obtain ⟨f1, f2, f3⟩ := ft2 (q := q) (b := b) (Z := fun _ => False) (c := 1) (σ := σ) (by decide) (by decide) sl h33 y ((gI_n (by omega)).trans h21)
          refine ⟨rfl, f1, f2.wk (fun Q j y => y.elim Or.inl (fun y => y.elim (fun y => Or.inr (Or.inl y)) (fun y => absurd y.2.2 (fun z => z)))), ?_⟩
          unfold FLm at y
          rw [y]
          exact ((rfr.rf.uI (Or.inr (Or.inr (Or.inr ⟨rfl, rfl⟩)))).uI (Or.inl ⟨rfl, by omega, by omega⟩)).uI (Or.inl ⟨rfl, by omega, by omega⟩)
        · exact absurd y k59
end IS
