/-! a number as a unit: both sides -/
section IS
variable {N : Nat} {E : EV} {σ σ1 σ2 τ τ1 τ2 : zS} {K K1 K2 : aK} {H H1 : Nat → Nat}
theorem sp_no {s0 : Nat} (h : SP E.b s0 σ τ) (h0 : f_X9_isTooMany (nI E.b) τ = 0) : σ.1 2 6 = -1 := by
  rcases h with y | y
  · exact y.2
  · exact absurd h0 y.1
theorem sp_tm {s u d : Nat} (h : SP E.b s σ τ) (h33 : σ.1 3 3 = nI s) (hs1 : s ≤ 1000) : tmU u d σ ↔ (u = 80 ∨ 5 < d ∨ ¬ f_X9_isTooMany (nI E.b) τ = 0) := by
  unfold tmU
  rw [h33]
  rcases h with ⟨y1, y2⟩ | ⟨y1, y2⟩
  · rw [y2]
    constructor
    · intro y
      rcases y with y | y | y
      · exact Or.inl y
      · exact Or.inr (Or.inl y)
      · exact absurd (show nI s < 0 by rw [y]; decide) (nI_pos (by omega))
    · intro y
      rcases y with y | y | y
      · exact Or.inl y
      · exact Or.inr (Or.inl y)
      · exact absurd y1 y
  · rw [y2]
    constructor
    · intro _
      exact Or.inr (Or.inr y1)
    · intro _
      exact Or.inr (Or.inr rfl)
theorem sim_num {n s e kd v w u Lc wt j d sg h : Nat} {W : Nat → Nat} (hh : PS E s e kd v w u K Lc Lc (wt + j) W (d + j) sg σ τ) (hN : 200000 < N) (hW : ∀ i, wt ≤ i → i < wt + j → W i = 7) (hw0 : wt = 0 ∨ ¬ W (wt - 1) = 7) (sg2 : sg ≤ 1) (hsp : SP E.b s σ τ) (hp : p_X9_isTooMany (nI E.b) τ) (hk : sg = 0 → ¬ kd = 320 ∧ (tpW (wt + j) W = 105 → ¬ kd = 41)) (hH : H Lc = h) (h28 : h ≤ 5 * (d + j) + 2) (d6 : d + j ≤ 6) (hLc : Lc ≤ 4 * u) (kk : kd = 302) : h_rd N (n + 1) 3 (nI (d + j)) 0 σ ∧ RES E N K H Lc h u s wt (g_rd N (n + 1) 3 (nI (d + j)) 0 σ) σ τ (QU E wt j d W) := by
  obtain ⟨hE, hT, ⟨hu1, hu2, u80⟩, hC, hM, hS, h38, h39, h25⟩ := hh
  have hE0 := hE
  obtain ⟨hTC, hTM, -, -, ⟨q1, q3, b2⟩, -⟩ := hE
  have hn := hTM.2.1
  have hs1 : s ≤ 1000 := by have := hT.1; have := hT.2.1; omega
  have vw := hT.2.2.2.2.1
  have v4 : v ≤ 10000 := by unfold nRl at vw; omega
  have c5 : σ.1 3 5 = nI v := hT.2.2.2.2.2.2.2.2.1 kk
  have c2 : σ.1 3 2 = 302 := by rw [hT.2.2.2.2.2.1, kk]; rfl
  have ht3 : τ.1 468 22 = 3 := (hT.tok (by omega)).1.mpr kk
  have hnum : τ.1 468 23 = nI w := by
    have h12 := hT.2.2.2.2.2.2.2.2.2.2.2
    unfold RK at h12
    rcases h12 with ⟨y1, y2⟩ | ⟨y1, y2⟩ | ⟨y1, y2, y3⟩ | ⟨y1, y2, y3⟩ | ⟨y1, y2, y3, y4⟩ | ⟨y1, y2, y3, y4⟩ <;> first | exact y3 | omega
  -- the code there will be
  have ag : agK K (miK (seK K Lc 0 (nI w)) (Lc + 1) j) Lc := seK_ag.tr miK_ag (by omega)
  have kL : (miK (seK K Lc 0 (nI w)) (Lc + 1) j).1 Lc = 0 ∧ (miK (seK K Lc 0 (nI w)) (Lc + 1) j).2.1 Lc = nI w := ⟨(miK_ag.1 Lc (by omega)).1.trans seK_o.1, (miK_ag.1 Lc (by omega)).2.trans seK_o.2⟩
  obtain ⟨l1, τL, l2, l3, l4, l5, l6, l7⟩ := rf_leaf (N := N) (o := 0) (x := nI w) (u := u) b2 (hM.ag ag (Nat.le_refl _)) (by omega) hS hW hw0 h38 kL.2.symm kL.1 (fun i i1 i2 => miK_m i1 i2) (by omega) (by omega)
  -- the next token
  have hTC1 : TC E.nb E.tx (zuI σ 2 5 (nI v)) := hTC.eq (fun Q jx y => gI_n (by omega)) rfl
  have hTM1 : TM E.nb E.tx τL := hTM.eq (fun Q jx y => l5 Q jx (by omega))
  obtain ⟨n1, n2, -, s1, e1, kd1, v1, w1, t1, t2, t3, t4, -⟩ := pr_next (N := N) (p := e) hTC1 hTM1 ((gI_n (by omega)).trans hT.2.2.2.2.2.2.2.1) ((l4 20 (by omega) (by omega)).trans hT.2.2.2.2.2.2.2.2.2.2.1) hT.2.1 (by omega)
  obtain ⟨m1, m2, τ1, m3, m4, m5, m6, m7⟩ := l7 _ t3
  have hC1 : CKc (zuI (s_X6_next N (zuI σ 2 5 (nI v))) E.q 8 (nI (u + 1))) E.q (miK (seK K Lc 0 (nI w)) (Lc + 1) j) Lc := (hC.ag ag).eq (fun Q jx y => by rw [gI_n (by omega), t2.2 _ _ (fun z => by unfold sTC at z; omega), gI_n (by omega)])
  have he : p_X2_emit E.q 0 (nI v) (zuI (s_X6_next N (zuI σ 2 5 (nI v))) E.q 8 (nI (u + 1))) := fun _ => ⟨put_p (by decide), put_p (by decide)⟩
  obtain ⟨g1, g2, g3, g4⟩ := cu_num (P := h_rd N n) (G := g_rd N n) (N := N) (d := d + j) q1 (ly_q q3) hu1 u80 (by omega) c2 c5 v4 (by omega) n1 t2 q3 he
  refine ⟨g1, ?_⟩
  have eg : g_rd N (n + 1) 3 (nI (d + j)) 0 σ = r_X3_readUnit (g_rd N n) (nI (d + j)) N σ := rfl
  rw [eg]
  obtain ⟨r1, r2⟩ := ru_head (N := N) (b := E.b) hT hTM h25 hS h39 sg2 (fun y1 y2 => (hk y1).2 y2)
  rw [if_neg (by omega), if_neg (by omega)] at r1 r2
  obtain ⟨N1, hN1⟩ : ∃ z, N = z + 8 := ⟨N - 8, by omega⟩
  obtain ⟨d1, d2⟩ := ru_num (N := N) (z := N1) hT h25 b2 hp kk
  rw [← hN1] at d1 d2
  have hw : sg = 0 → f_X9_isWord 10 τ = 0 := fun y => by
    have e : f_X9_isWord (nI 10) τ = if kd = 310 + 10 then 1 else 0 := rk_word hT h25 (by decide)
    have e : f_X9_isWord 10 τ = if kd = 310 + 10 then 1 else 0 := e
    rw [e, if_neg (hk y).1]
  have h21 := hT.2.2.2.2.2.2.2.2.2.1
  have h33 : σ.1 3 3 = nI s := hT.2.2.2.2.2.2.1
  have fC : rfr (sRC E.q) σ (s_X6_next N (zuI σ 2 5 (nI v))) := (rfr.rf.uI (show sRC E.q 2 5 from Or.inr (Or.inl ⟨rfl, Or.inl rfl⟩))).tr (rfr.tc t2)
  have ntm := sp_tm (u := u) (d := d + j) hsp h33 hs1
  by_cases cv : 9999 < v
  · left
    have cw : ¬ w ≤ 9999 := by unfold nRl at vw; omega
    obtain ⟨x1, x2⟩ := d1 cw
    rw [← r1] at x2
    have rn := rn_unit (N := N) (b := E.b) h25 h39 sg2 hw (r2 x1)
    obtain ⟨f1, f2⟩ := ft_of (E := E) (σ := σ) (c := 2) (x := 2) (y := σ.1 3 3) (by decide) (by decide) hs1 rfl h33 x2 h21
    rw [g2 cv]
    exact ⟨rfl, 1, _, by omega, rn, ⟨f1, ft_L hM x2 (by omega)⟩, rc_ref rfr.rf, f2⟩
  · have ew : w = v := by unfold nRl at vw; omega
    subst ew
    obtain ⟨x1, x2⟩ := d2 (by omega)
    obtain ⟨N2, hN2⟩ : ∃ z, N1 + 3 = z + 1 + 1 + 1 := ⟨N1, by omega⟩
    rw [hN2] at x1 x2
    obtain ⟨y1, y2⟩ := ru_cnt (N := N) (z := N2) (v2 := 0) (v3 := 0) (v4 := 0) (v5 := -1) (v6 := -1) h25 b2 hp hu2 u80 h38 (by omega)
    by_cases ct : u = 80 ∨ 5 < d + j ∨ ¬ f_X9_isTooMany (nI E.b) τ = 0
    · left
      obtain ⟨a1, a2⟩ := y1 ct
      rw [← x1, ← r1] at a2
      have rn := rn_unit (N := N) (b := E.b) h25 h39 sg2 hw (r2 (x2 a1))
      obtain ⟨f1, f2⟩ := ft_of (E := E) (σ := s_X6_next N (zuI σ 2 5 (nI w))) (c := 5) (x := 5) (y := σ.1 3 3) (by decide) (by decide) hs1 rfl h33 a2 h21
      rw [g3 (by omega) (ntm.mpr ct)]
      exact ⟨rfl, 1, _, by omega, rn, ⟨f1, ft_L hM a2 (by omega)⟩, rc_ref fC, f2⟩
    · right
      have htm : f_X9_isTooMany (nI E.b) τ = 0 := Classical.byContradiction fun z => ct (Or.inr (Or.inr z))
      have h26 := sp_no hsp htm
      have u79 : ¬ u = 80 := fun z => ct (Or.inl z)
      have d5 : ¬ 5 < d + j := fun z => ct (Or.inr (Or.inl z))
      clear ct
      obtain ⟨a1, a2⟩ := y2 (by omega) (by omega) htm
      have el : τL = zuI (s_X9_lay (nI E.b) 0 (nI w) (zuI τ 478 E.b (nI (u + 1)))) 468 39 2 := l2.symm
      obtain ⟨b1, b3⟩ := ru_leaf (N := N) (z := N2) (v5 := -1) (v6 := -1) (o := 0) (x := nI w) h25 b2 hu2 (Or.inl ⟨ht3, rfl, hnum.symm⟩) l1 (by rw [← el]; exact n2) (by rw [← el]; exact m1) (by rw [← el]; exact m2)
      rw [← el, m3] at b3
      have rn := rn_unit (N := N) (b := E.b) h25 h39 sg2 hw (r2 (x2 (a2 b1)))
      rw [r1, x1, a1, b3] at rn
      obtain ⟨p1, p2, p3, p4⟩ := cl_emit (x := 0) (y := nI w) hC1 (by omega) (by rw [kL.1]; rfl) kL.2.symm
      rw [g4 (by omega) (fun z => (ntm.mp z).elim u79 (fun z => z.elim d5 (fun z => z htm)))]
      have fC2 : rfr (sRC E.q) σ (r_X2_emit E.q 0 (nI w) (zuI (s_X6_next N (zuI σ 2 5 (nI w))) E.q 8 (nI (u + 1)))).2 := (fC.uI (show sRC E.q E.q 8 from Or.inr (Or.inr (Or.inl ⟨rfl, Or.inl rfl⟩)))).tr (rfr.em p4)
      have fM1 : rfr (sRM E.b) (s_X9_scan N τL) τ1 := m7.wk (fun Q jx y => by
        rcases y with y | y
        · exact Or.inr (Or.inr (Or.inl y))
        · exact Or.inl ⟨y.1, Or.inr ⟨by omega, by omega⟩⟩)
      have fM : rfr (sRM E.b) τ τ1 := (l3.tr (rfr.tm t3)).tr fM1
      have cE : ∀ Q jx, ¬ (Q = E.q + 5 ∨ Q = E.q + 6 ∨ (Q = E.q ∧ (jx = 8 ∨ jx = 9))) → (r_X2_emit E.q 0 (nI w) (zuI (s_X6_next N (zuI σ 2 5 (nI w))) E.q 8 (nI (u + 1)))).2.1 Q jx = (s_X6_next N (zuI σ 2 5 (nI w))).1 Q jx := fun Q jx y => by rw [p4.2 _ _ (fun z => by unfold sEm at z; omega), gI_n (by omega)]
      have mE : ∀ Q jx, ¬ (sLa E.b Q jx ∨ (Q = 468 ∧ (jx = 37 ∨ jx = 38))) → τ1.1 Q jx = (s_X9_scan N τL).1 Q jx := m7.2
      have m39 : τ1.1 468 39 = 2 := (mE _ _ (fun z => by unfold sLa at z; omega)).trans m1
      have m25 : τ1.1 468 25 = 0 := by rw [mE _ _ (fun z => by unfold sLa at z; omega), t3.2 _ _ (fun z => by unfold sTM at z; omega), l4 25 (by omega) (by omega)]; exact h25
      have m478 : τ1.1 478 E.b = nI (u + 1) := by rw [mE _ _ (fun z => by unfold sLa at z; omega), t3.2 _ _ (fun z => by unfold sTM at z; omega)]; exact l6
      have q8 : (r_X2_emit E.q 0 (nI w) (zuI (s_X6_next N (zuI σ 2 5 (nI w))) E.q 8 (nI (u + 1)))).2.1 E.q 8 = nI (u + 1) := by rw [p4.2 _ _ (fun z => by unfold sEm at z; omega)]; exact gI_h rfl rfl
      have q26 : (r_X2_emit E.q 0 (nI w) (zuI (s_X6_next N (zuI σ 2 5 (nI w))) E.q 8 (nI (u + 1)))).2.1 2 6 = -1 := by rw [cE _ _ (by omega), t2.2 _ _ (fun z => by unfold sTC at z; omega), gI_n (by omega)]; exact h26
      refine ⟨htm, rfl, s1, e1, kd1, v1, w1, u + 1, miK (seK K Lc 0 (nI w)) (Lc + 1) j, seH H (Lc + 1) (h + 1), Lc + 1, 1, τ1, t1.eq (fun jx y3 y4 => cE _ _ (by omega)) (fun jx y3 y4 => mE _ _ (fun z => by unfold sLa at z; omega)), hE0.fr fC2 fM, ⟨q8, m478, by omega⟩, p3, m39, m25, q26, (ts_num hH (by omega)).ag miK_ag, ⟨seH_o, by omega⟩, ⟨by omega, by omega⟩, ⟨?_, ?_⟩, rn, fC2, fM, fun i hi => ⟨?_, ?_⟩, m5, m4, m6, fun i i1 i2 => miK_m i1 i2⟩
      · have := hT.2.2.2.1 (by omega)
        omega
      · have := hT.2.2.2.1 (by omega)
        omega
      · rw [mE _ _ (fun z => by unfold sLa at z; omega), t3.2 _ _ (fun z => by unfold sTM at z; omega), l5 _ _ (by omega)]
      · rw [mE _ _ (fun z => by unfold sLa at z; omega), t3.2 _ _ (fun z => by unfold sTM at z; omega), l5 _ _ (by omega)]
end IS
