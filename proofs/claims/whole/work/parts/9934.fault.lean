/-! units that both refuse -/
section IS
variable {N : Nat} {E : EV} {σ σ1 σ2 τ τ1 τ2 : zS} {K : aK}
theorem ly_q {q : Nat} (h : q = 16 ∨ q = 23) : zlay q = (2, 16) := by
  rcases h with rfl | rfl <;> decide
/-- to the head of the reference's unit -/
theorem ru_head {s e kd v w wt sg b nb : Nat} {tx : Nat → Nat} {W : Nat → Nat} (h : TKs tx nb s e kd v w σ τ) (g : TM nb tx τ) (h0 : τ.1 468 25 = 0) (hS : SKs τ wt W) (hs : τ.1 468 39 = nI sg) (sg2 : sg ≤ 1) (hk : sg = 0 → tpW wt W = 105 → ¬ kd = 41) : s_X9_readUnit (nI b) N τ = l_X9_readUnit N N 0 (nI b) (if kd = 40 then 1 else 0) (if kd = 45 then 1 else 0) 0 0 0 τ ∧ (q_X9_readUnit N N 0 (nI b) (if kd = 40 then 1 else 0) (if kd = 45 then 1 else 0) 0 0 0 τ → p_X9_readUnit (nI b) N τ) := by
  obtain ⟨a1, a2⟩ := rk_at (c := 40) h g h0 (by decide)
  obtain ⟨b1, b2⟩ := rk_at (c := 45) h g h0 (by decide)
  obtain ⟨c1, c2⟩ := rk_at (c := 41) h g h0 (by decide)
  have a2 : f_X9_isAt 40 τ = if kd = 40 then 1 else 0 := a2
  have b2 : f_X9_isAt 45 τ = if kd = 45 then 1 else 0 := b2
  have c2 : f_X9_isAt 41 τ = if kd = 41 then 1 else 0 := c2
  obtain ⟨t1, t2⟩ := hS.top
  have key : τ.1 468 39 = 0 → f_X9_top τ = 105 → f_X9_isAt 41 τ = 0 := fun y1 y2 => by
    have y0 : sg = 0 := (nI_eq (b := 0) (by omega) (by decide)).mp (hs.symm.trans y1)
    rw [c2, if_neg (hk y0 (t2.symm.trans y2))]
  refine ⟨?_, fun y => ?_⟩
  · unfold s_X9_readUnit
    rw [a2, b2]
    by_cases k1 : τ.1 468 39 = 0
    · rw [if_pos k1]
      by_cases k2 : f_X9_top τ = 105
      · rw [if_pos k2, if_pos (key k1 k2)]
      · rw [if_neg k2]
    · rw [if_neg k1]
  · unfold p_X9_readUnit
    rw [a2, b2]
    exact ⟨a1, b1, fun _ => y, fun k1 => ⟨t1, fun _ => y, fun k2 => ⟨c1, fun _ => y, fun k3 => absurd (key k1 k2) k3⟩⟩⟩
/-- the same fault on both sides -/
theorem ft_of {c s : Nat} {x y : Int32} (h1 : 1 ≤ c) (h2 : c ≤ 5) (hs : s ≤ 1000) (hx : x = nI c) (hy : y = nI s) (hf : FLm c τ τ1) (h21 : τ.1 468 21 = nI s) : FT (zuI (zuI σ 2 2 x) 2 3 y) τ1 ∧ rfr (sRN E.b) τ τ1 := by
  unfold FLm at hf
  subst hf
  refine ⟨⟨c, s, h1, h2, hs, ?_, ?_, ?_, ?_⟩, (rfr.rf.uI (show sRN E.b 468 25 from Or.inr ⟨rfl, Or.inl rfl⟩)).uI (Or.inr ⟨rfl, Or.inr rfl⟩)⟩
  · rw [gI_n (by omega), gI_h rfl rfl, hx]
  · rw [gI_h rfl rfl, hy]
  · rw [gI_n (by omega), gI_h rfl rfl]
  · rw [gI_h rfl rfl, h21]
theorem ft_L {c L : Nat} (hM : MKc τ E.b K L) (hf : FLm c τ τ1) (hL : L ≤ 399) : ∃ LR, τ1.1 479 E.b = nI LR ∧ LR ≤ 399 := by
  refine ⟨L, ?_, hL⟩
  unfold FLm at hf
  rw [hf, gI_n (by omega), gI_n (by omega)]
  exact hM.2
theorem rc_ref {x y : Int32} (h : rfr (sRC E.q) σ σ1) : rfr (sRD E.q) σ (zuI (zuI σ1 2 2 x) 2 3 y) := (h.dd.uI (show sRD E.q 2 2 from Or.inr ⟨rfl, Or.inl rfl⟩)).uI (Or.inr ⟨rfl, Or.inr rfl⟩)
/-- a token no unit begins with -/
theorem sim_bad {n s e kd v w u Lc LR wt d sg : Nat} {W : Nat → Nat} (h : PS E s e kd v w u K Lc LR wt W d sg σ τ) (hN : 200000 < N) (sg2 : sg ≤ 1) (hp : p_X9_isTooMany (nI E.b) τ) (hk : sg = 0 → ¬ kd = 320 ∧ (tpW wt W = 105 → ¬ kd = 41)) (d9 : d ≤ 9) (k1 : ¬ kd = 303) (k2 : ¬ kd = 302) (k3 : ¬ kd = 40) (k5 : ¬ kd = 45) (hLR : LR ≤ 399) : h_rd N (n + 1) 3 (nI d) 0 σ ∧ BAD E N s (g_rd N (n + 1) 3 (nI d) 0 σ) σ τ := by
  obtain ⟨hE, hT, ⟨hu1, hu2, u80⟩, hC, hM, hS, h38, h39, h25⟩ := h
  obtain ⟨hTC, hTM, -, -, ⟨q1, q3, b2⟩, -⟩ := hE
  have kl := hT.kd
  have hn := hTM.2.1
  have hs1 : s ≤ 1000 := by have := hT.1; have := hT.2.1; omega
  obtain ⟨c1, c2⟩ := cu_bad (P := h_rd N n) (G := g_rd N n) (N := N) (d := d) q1 (ly_q q3) hu1 u80 d9 hT.2.2.2.2.2.1 (by omega) k1 k2 k3 k5 (by omega)
  obtain ⟨r1, r2⟩ := ru_head (N := N) (b := E.b) hT hTM h25 hS h39 sg2 (fun y1 y2 => (hk y1).2 y2)
  rw [if_neg k3, if_neg k5] at r1 r2
  obtain ⟨N1, hN1⟩ : ∃ z, N = z + 7 := ⟨N - 7, by omega⟩
  obtain ⟨d1, d2⟩ := ru_bad (N := N) (z := N1) hT h25 b2 hp k1 k2
  rw [← hN1] at d1 d2
  rw [← r1] at d2
  have hw : sg = 0 → f_X9_isWord 10 τ = 0 := fun y => by
    have e : f_X9_isWord (nI 10) τ = if kd = 310 + 10 then 1 else 0 := rk_word hT h25 (by decide)
    have e : f_X9_isWord 10 τ = if kd = 310 + 10 then 1 else 0 := e
    rw [e, if_neg (hk y).1]
  have rn := rn_unit (N := N) (b := E.b) h25 h39 sg2 hw (r2 d1)
  obtain ⟨f1, f2⟩ := ft_of (E := E) (σ := σ) (c := 1) (x := 1) (y := σ.1 3 3) (by decide) (by decide) hs1 rfl hT.2.2.2.2.2.2.1 d2 hT.2.2.2.2.2.2.2.2.2.1
  have eg : g_rd N (n + 1) 3 (nI d) 0 σ = (0, zuI (zuI σ 2 2 1) 2 3 (σ.1 3 3)) := c2
  refine ⟨c1, ?_⟩
  rw [eg]
  exact ⟨rfl, 1, _, by omega, rn, ⟨f1, ft_L hM d2 hLR⟩, rc_ref rfr.rf, f2⟩
end IS
