/-! a parameter as a unit: both sides -/
section IS
variable {N : Nat} {E : EV} {σ σ1 σ2 τ τ1 τ2 : zS} {K K1 K2 : aK} {H H1 : Nat → Nat}
/-- behind a leaf: laid on both sides -/
theorem leaf_end {s u Lc wt j d o s1 e1 kd1 v1 w1 h : Nat} {W : Nat → Nat} {x : Int32} {τL : zS} (hE0 : EN E σ τ) (hC : CKc σ E.q K Lc) (hLc : Lc < 400) (ox : nI o = nI (cmap o)) (h25 : τ.1 468 25 = 0) (h26 : σ.1 2 6 = -1) (hu80 : u < 80) (l3 : rfr (sRM E.b) τ τL) (l4 : ∀ jx, 20 ≤ jx → jx ≤ 26 → τL.1 468 jx = τ.1 468 jx) (l5 : ∀ Q j, (Q = 485 ∨ Q = 486 ∨ (Q = 468 ∧ j = 19) ∨ Q = 490 ∨ Q = 491) → τL.1 Q j = τ.1 Q j) (l6 : τL.1 478 E.b = nI (u + 1)) (fC : rfr (fun Q jx => sTC Q jx ∨ (Q = 2 ∧ jx = 5)) σ σ1) (t1 : TKs E.tx E.nb s1 e1 kd1 v1 w1 σ1 (s_X9_scan N τL)) (t3 : rfr sTM τL (s_X9_scan N τL)) (m1 : (s_X9_scan N τL).1 468 39 = 2) (m4 : SKs τ1 wt W) (m5 : MKc τ1 E.b (miK (seK K Lc o x) (Lc + 1) j) (Lc + 1 + j)) (m6 : τ1.1 468 38 = nI d) (m7 : rfr (fun Q j => sLa E.b Q j ∨ (Q = 468 ∧ (j = 37 ∨ j = 38))) (s_X9_scan N τL) τ1) (rn : Rn N E.b 1 τ τ1) (hts : TS K H Lc (seK K Lc o x) (seH H (Lc + 1) (h + 1)) (Lc + 1) E.nf) (h27 : h ≤ 27) (hs : s < s1) : GOOD E N K H Lc h u s wt (1, (r_X2_emit E.q (nI o) x (zuI σ1 E.q 8 (nI (u + 1)))).2) σ τ (QU E wt j d W) := by
  have q3 := hE0.2.2.2.2.1.2.1
  have ag : agK K (miK (seK K Lc o x) (Lc + 1) j) Lc := seK_ag.tr miK_ag (by omega)
  have kL : (miK (seK K Lc o x) (Lc + 1) j).1 Lc = o ∧ (miK (seK K Lc o x) (Lc + 1) j).2.1 Lc = x := ⟨(miK_ag.1 Lc (by omega)).1.trans seK_o.1, (miK_ag.1 Lc (by omega)).2.trans seK_o.2⟩
  have c0 : ∀ Q jx, ¬ (Q = 3 ∨ Q = 2 ∧ jx = 5) → σ1.1 Q jx = σ.1 Q jx := fun Q jx y => fC.2 _ _ (fun z => by
    rcases z with z | z
    · exact y (Or.inl z.1)
    · exact y (Or.inr z))
  have fC1 : rfr (sRC E.q) σ σ1 := fC.wk (fun Q jx y => by
    rcases y with y | y
    · exact Or.inl y
    · exact Or.inr (Or.inl ⟨y.1, Or.inl y.2⟩))
  have hC1 : CKc (zuI σ1 E.q 8 (nI (u + 1))) E.q (miK (seK K Lc o x) (Lc + 1) j) Lc := (hC.ag ag).eq (fun Q jx y => by rw [gI_n (by omega), c0 _ _ (by omega)])
  obtain ⟨p1, p2, p3, p4⟩ := cl_emit (x := nI o) (y := x) hC1 (by omega) (by rw [kL.1]; exact ox) kL.2.symm
  have fC2 : rfr (sRC E.q) σ (r_X2_emit E.q (nI o) x (zuI σ1 E.q 8 (nI (u + 1)))).2 := (fC1.uI (show sRC E.q E.q 8 from Or.inr (Or.inr (Or.inl ⟨rfl, Or.inl rfl⟩)))).tr (rfr.em p4)
  have fM1 : rfr (sRM E.b) (s_X9_scan N τL) τ1 := m7.wk (fun Q jx y => by
    rcases y with y | y
    · exact Or.inr (Or.inr (Or.inl y))
    · exact Or.inl ⟨y.1, Or.inr ⟨by omega, by omega⟩⟩)
  have fM : rfr (sRM E.b) τ τ1 := (l3.tr (rfr.tm t3)).tr fM1
  have cE : ∀ Q jx, ¬ (Q = E.q + 5 ∨ Q = E.q + 6 ∨ (Q = E.q ∧ (jx = 8 ∨ jx = 9))) → (r_X2_emit E.q (nI o) x (zuI σ1 E.q 8 (nI (u + 1)))).2.1 Q jx = σ1.1 Q jx := fun Q jx y => by rw [p4.2 _ _ (fun z => by unfold sEm at z; omega), gI_n (by omega)]
  have mE : ∀ Q jx, ¬ (sLa E.b Q jx ∨ (Q = 468 ∧ (jx = 37 ∨ jx = 38))) → τ1.1 Q jx = (s_X9_scan N τL).1 Q jx := m7.2
  have m39 : τ1.1 468 39 = 2 := (mE _ _ (fun z => by unfold sLa at z; omega)).trans m1
  have m25 : τ1.1 468 25 = 0 := by rw [mE _ _ (fun z => by unfold sLa at z; omega), t3.2 _ _ (fun z => by unfold sTM at z; omega), l4 25 (by omega) (by omega)]; exact h25
  have m478 : τ1.1 478 E.b = nI (u + 1) := by rw [mE _ _ (fun z => by unfold sLa at z; omega), t3.2 _ _ (fun z => by unfold sTM at z; omega)]; exact l6
  have q8 : (r_X2_emit E.q (nI o) x (zuI σ1 E.q 8 (nI (u + 1)))).2.1 E.q 8 = nI (u + 1) := by rw [p4.2 _ _ (fun z => by unfold sEm at z; omega)]; exact gI_h rfl rfl
  have q26 : (r_X2_emit E.q (nI o) x (zuI σ1 E.q 8 (nI (u + 1)))).2.1 2 6 = -1 := by rw [cE _ _ (by omega), c0 _ _ (by omega)]; exact h26
  refine ⟨rfl, s1, e1, kd1, v1, w1, u + 1, miK (seK K Lc o x) (Lc + 1) j, seH H (Lc + 1) (h + 1), Lc + 1, 1, τ1, t1.eq (fun jx y3 y4 => cE _ _ (by omega)) (fun jx y3 y4 => mE _ _ (fun z => by unfold sLa at z; omega)), hE0.fr fC2 fM, ⟨q8, m478, by omega⟩, p3, m39, m25, q26, hts.ag miK_ag, ⟨seH_o, h27⟩, ⟨by omega, by omega⟩, ⟨hs, by omega⟩, rn, fC2, fM, fun i hi => ⟨?_, ?_⟩, m5, m4, m6, fun i i1 i2 => miK_m i1 i2⟩
  · rw [mE _ _ (fun z => by unfold sLa at z; omega), t3.2 _ _ (fun z => by unfold sTM at z; omega), l5 _ _ (by omega)]
  · rw [mE _ _ (fun z => by unfold sLa at z; omega), t3.2 _ _ (fun z => by unfold sTM at z; omega), l5 _ _ (by omega)]
/-- a name that no ( stands behind -/
theorem sim_prm {n s e kd v w u Lc wt j d sg h : Nat} {W : Nat → Nat} (hh : PS E s e kd v w u K Lc Lc (wt + j) W (d + j) sg σ τ) (hN : 200000 < N) (hW : ∀ i, wt ≤ i → i < wt + j → W i = 7) (hw0 : wt = 0 ∨ ¬ W (wt - 1) = 7) (sg2 : sg ≤ 1) (hsp : SP E.b s σ τ) (hp : p_X9_isTooMany (nI E.b) τ) (hk : sg = 0 → ¬ kd = 320 ∧ (tpW (wt + j) W = 105 → ¬ kd = 41)) (hH : H Lc = h) (h28 : h ≤ 5 * (d + j) + 2) (d6 : d + j ≤ 6) (hLc : Lc ≤ 4 * u) (kk : kd = 303) (ko : f_X9_isOpenBehind N τ = 0) : h_rd N (n + 1 + 1) 3 (nI (d + j)) 0 σ ∧ RES E N K H Lc h u s wt (g_rd N (n + 1 + 1) 3 (nI (d + j)) 0 σ) σ τ (QU E wt j d W) := by
  obtain ⟨hE, hT, ⟨hu1, hu2, u80⟩, hC, hM, hS, h38, h39, h25⟩ := hh
  have hE0 := hE
  obtain ⟨hTC, hTM, -, hNP, ⟨q1, q3, b2⟩, ⟨hf1, hf2⟩, ⟨hp1, hp2⟩, -⟩ := hE
  have hn := hTM.2.1
  have hse := hT.1
  have hen := hT.2.1
  have hs1 : s ≤ 1000 := by omega
  have h33 : σ.1 3 3 = nI s := hT.2.2.2.2.2.2.1
  have h34 : σ.1 3 4 = nI e := hT.2.2.2.2.2.2.2.1
  have h21 := hT.2.2.2.2.2.2.2.2.2.1
  have h20 := hT.2.2.2.2.2.2.2.2.2.2.1
  have c2 : σ.1 3 2 = 303 := by rw [hT.2.2.2.2.2.1, kk]; rfl
  have ht3 : ¬ τ.1 468 22 = 3 := fun y => by have := (hT.tok (by omega)).1.mp y; omega
  obtain ⟨n1, -, o1, s2, e2, k2, v2, w2, t1, t2, -, -, o2⟩ := pr_next (N := N) (p := e) hTC hTM h34 h20 hen (by omega)
  have k40 : ¬ k2 = 40 := fun y => by
    rw [if_pos y] at o2
    rw [o2] at ko
    exact absurd ko (by decide)
  have hE1 : EN E (s_X6_next N σ) τ := hE0.fr (rfr.tc t2) rfr.rf
  obtain ⟨x1, x2, x3⟩ := pr_pname (N := N) (s := s) (e := e) hE1.1 hTM hE1.2.2.2.1 hE1.2.2.2.2.2.2.1.1 hp2 h21 h20 hse hen (by omega)
  obtain ⟨y1, y2, -⟩ := pr_fname (N := N) (s := s) (e := e) hE1.1 hTM hE1.2.2.1 hE1.2.2.2.2.1.1 (ly_q q3) hE1.2.2.2.2.2.1.1 h21 h20 hse hen (by omega)
  rw [← hf2] at y2
  have hu3 : (s_X6_next N σ).1 E.q 8 = nI u := (t2.2 _ _ (fun z => by unfold sTC at z; omega)).trans hu1
  have cn : ∀ p, p < 10 → _ := fun p p9 => cn_par (N := N) (q := E.q) (u := u) (x1 := nI (d + j)) (x2 := (0 : Int32)) (P := h_rd N n) (G := g_rd N n) (p := p) n1 t1.2.2.2.2.2.1 (by have := t1.kd; omega) k40 (by rw [h33, h34]; exact x1) hE1.2.2.2.2.1.1 (ly_q q3) hu3 p9
  have cn1 : ∀ p, p < 10 → _ := fun p p9 => cn_par (N := N) (q := E.q) (u := u) (x1 := nI (d + j)) (x2 := (1 : Int32)) (P := h_rd N n) (G := g_rd N n) (p := p) n1 t1.2.2.2.2.2.1 (by have := t1.kd; omega) k40 (by rw [h33, h34]; exact x1) hE1.2.2.2.2.1.1 (ly_q q3) hu3 p9
  have ntm := sp_tm (u := u) (d := d + j) hsp h33 hs1
  have ctm : (¬ tmU u (d + j) σ) ∨ tmU u (d + j) σ := Classical.em _ |>.symm
  -- the class's answer is that of the name
  have hun : ∀ x : Int32, (tmU u (d + j) σ ∧ x = 1) ∨ (¬ tmU u (d + j) σ ∧ x = 0) → ((r_X3_readNamed (g_rd N n) (nI (d + j)) x N σ).1 = 0 ∨ (r_X3_readNamed (g_rd N n) (nI (d + j)) x N σ).1 = 1) → p_X3_readNamed (h_rd N n) (g_rd N n) (nI (d + j)) x N σ → h_rd N (n + 1 + 1) 3 (nI (d + j)) 0 σ ∧ g_rd N (n + 1 + 1) 3 (nI (d + j)) 0 σ = r_X3_readNamed (g_rd N n) (nI (d + j)) x N σ := fun x hx h01 hpx => cu_nam (N := N) (P := h_rd N (n + 1)) (G := g_rd N (n + 1)) (kd := 303) (d := d + j) q1 (ly_q q3) hu1 u80 (by omega) c2 (by omega) hx hpx h01
  obtain ⟨r1, r2⟩ := ru_head (N := N) (b := E.b) hT hTM h25 hS h39 sg2 (fun y1 y2 => (hk y1).2 y2)
  rw [if_neg (by omega), if_neg (by omega)] at r1 r2
  obtain ⟨N1, hN1⟩ : ∃ z, N = z + 8 := ⟨N - 8, by omega⟩
  have hw : sg = 0 → f_X9_isWord 10 τ = 0 := fun y => by
    have e : f_X9_isWord (nI 10) τ = if kd = 310 + 10 then 1 else 0 := rk_word hT h25 (by decide)
    have e : f_X9_isWord 10 τ = if kd = 310 + 10 then 1 else 0 := e
    rw [e, if_neg (hk y).1]
  have fC1 : rfr (sRC E.q) σ (s_X6_next N σ) := rfr.tc t2
  have np4 := hNP.1
  rcases x3 with ⟨z1, z2⟩ | ⟨p, pn, z1, z2⟩
  · -- no such parameter
    rw [← h33, ← h34] at z1
    obtain ⟨-, -, d3, -⟩ := ru_nam (N := N) (b := E.b) (z := N1) (k2 := k2) (f := 0) (p := 0) hT h25 b2 hp kk o1 o2 y2 rfl x2 z2
    obtain ⟨d4, d5⟩ := d3 k40 rfl
    rw [← hN1] at d4 d5
    rw [← r1] at d5
    have rn := rn_unit (N := N) (b := E.b) h25 h39 sg2 hw (r2 d4)
    obtain ⟨f1, f2⟩ := ft_of (E := E) (σ := s_X6_next N σ) (c := 4) (x := 4) (y := σ.1 3 3) (by decide) (by decide) hs1 rfl h33 d5 h21
    have fin : ∀ x : Int32, (tmU u (d + j) σ ∧ x = 1) ∨ (¬ tmU u (d + j) σ ∧ x = 0) → r_X3_readNamed (g_rd N n) (nI (d + j)) x N σ = (0, zuI (zuI (s_X6_next N σ) 2 2 4) 2 3 (σ.1 3 3)) → p_X3_readNamed (h_rd N n) (g_rd N n) (nI (d + j)) x N σ → h_rd N (n + 1 + 1) 3 (nI (d + j)) 0 σ ∧ RES E N K H Lc h u s wt (g_rd N (n + 1 + 1) 3 (nI (d + j)) 0 σ) σ τ (QU E wt j d W) := fun x hx ex px => by
      obtain ⟨a1, a2⟩ := hun x hx (Or.inl (by rw [ex])) px
      rw [a2, ex]
      exact ⟨a1, Or.inl ⟨rfl, 1, _, by omega, rn, ⟨f1, ft_L hM d5 (by omega)⟩, rc_ref fC1, f2⟩⟩
    rcases ctm with c | c
    · exact fin 0 (Or.inr ⟨c, rfl⟩) ((cn 0 (by decide)).2.1 z1) (cn 0 (by decide)).1
    · exact fin 1 (Or.inl ⟨c, rfl⟩) ((cn1 0 (by decide)).2.1 z1) (cn1 0 (by decide)).1
  · rw [← h33, ← h34] at z1
    obtain ⟨-, -, -, d3⟩ := ru_nam (N := N) (b := E.b) (z := N1) (k2 := k2) (f := 0) (p := p) hT h25 b2 hp kk o1 o2 y2 rfl x2 z2
    obtain ⟨d4, d5⟩ := d3 k40 rfl (by omega)
    rw [← hN1, ← r1] at d4
    rw [← hN1] at d5
    obtain ⟨y3, y4⟩ := ru_cnt (N := N) (z := N1 + 1) (v2 := 0) (v3 := 0) (v4 := 0) (v5 := -1) (v6 := nI p) h25 b2 hp hu2 u80 h38 (by omega)
    by_cases ct : u = 80 ∨ 5 < d + j ∨ ¬ f_X9_isTooMany (nI E.b) τ = 0
    · obtain ⟨a1, a2⟩ := y3 ct
      have a2 : FLm 5 τ (s_X9_readUnit (nI E.b) N τ) := by rw [d4]; exact a2
      have rn := rn_unit (N := N) (b := E.b) h25 h39 sg2 hw (r2 (d5 a1))
      obtain ⟨f1, f2⟩ := ft_of (E := E) (σ := s_X6_next N σ) (c := 5) (x := 5) (y := σ.1 3 3) (by decide) (by decide) hs1 rfl h33 a2 h21
      have ex := (cn1 p (by omega)).2.2.2 z1 (by decide)
      obtain ⟨b1, b3⟩ := hun 1 (Or.inl ⟨ntm.mpr ct, rfl⟩) (Or.inl (by rw [ex])) (cn1 p (by omega)).1
      rw [b3, ex]
      exact ⟨b1, Or.inl ⟨rfl, 1, _, by omega, rn, ⟨f1, ft_L hM a2 (by omega)⟩, rc_ref fC1, f2⟩⟩
    · have htm : f_X9_isTooMany (nI E.b) τ = 0 := Classical.byContradiction fun z => ct (Or.inr (Or.inr z))
      have h26 := sp_no hsp htm
      have u79 : ¬ u = 80 := fun z => ct (Or.inl z)
      have d5' : ¬ 5 < d + j := fun z => ct (Or.inr (Or.inl z))
      have ntm' : ¬ tmU u (d + j) σ := fun z => ct (ntm.mp z)
      clear ct
      obtain ⟨a1, a2⟩ := y4 (by omega) (by omega) htm
      have ag : agK K (miK (seK K Lc 1 (nI p)) (Lc + 1) j) Lc := seK_ag.tr miK_ag (by omega)
      have kL : (miK (seK K Lc 1 (nI p)) (Lc + 1) j).1 Lc = 1 ∧ (miK (seK K Lc 1 (nI p)) (Lc + 1) j).2.1 Lc = nI p := ⟨(miK_ag.1 Lc (by omega)).1.trans seK_o.1, (miK_ag.1 Lc (by omega)).2.trans seK_o.2⟩
      obtain ⟨l1, τL, l2, l3, l4, l5, l6, l7⟩ := rf_leaf (N := N) (o := 1) (x := nI p) (u := u) b2 (hM.ag ag (Nat.le_refl _)) (by omega) hS hW hw0 h38 kL.2.symm kL.1 (fun i i1 i2 => miK_m i1 i2) (by omega) (by omega)
      have hTM1 : TM E.nb E.tx τL := hTM.eq (fun Q jx y => l5 Q jx (by omega))
      obtain ⟨-, n2, -, s3, e3, k3, v3, w3, t4, t5, t6, t7, -⟩ := pr_next (N := N) (p := e) hTC hTM1 h34 ((l4 20 (by omega) (by omega)).trans h20) hen (by omega)
      obtain ⟨m1, m2, τ1, m3, m4, m5, m6, m7⟩ := l7 _ t6
      have el : τL = zuI (s_X9_lay (nI E.b) 1 (nI p) (zuI τ 478 E.b (nI (u + 1)))) 468 39 2 := l2.symm
      obtain ⟨b1, b3⟩ := ru_leaf (N := N) (z := N1 + 1) (v5 := -1) (v6 := nI p) (o := 1) (x := nI p) h25 b2 hu2 (Or.inr ⟨ht3, rfl, rfl⟩) l1 (by rw [← el]; exact n2) (by rw [← el]; exact m1) (by rw [← el]; exact m2)
      rw [← el, m3] at b3
      have rn := rn_unit (N := N) (b := E.b) h25 h39 sg2 hw (r2 (d5 (a2 b1)))
      rw [d4] at rn
      have a1 : l_X9_readUnit N (N1 + 4) 5 (nI E.b) 0 0 0 (-1) (nI p) τ = l_X9_readUnit N (N1 + 1 + 1 + 1) 7 (nI E.b) 0 0 0 (-1) (nI p) τ := a1
      rw [a1, b3] at rn
      have ex := (cn p (by omega)).2.2.1 z1 rfl
      obtain ⟨c1, c3⟩ := hun 0 (Or.inr ⟨ntm', rfl⟩) (Or.inr (by rw [ex])) (cn p (by omega)).1
      rw [c3, ex]
      have hss : s < s3 := by
        have := hT.2.2.2.1 (by omega)
        omega
      exact ⟨c1, Or.inr ⟨htm, leaf_end (o := 1) hE0 hC (by omega) rfl h25 h26 (by omega) l3 l4 l5 l6 (t5.wk (fun Q jx y => Or.inl y)) t4 t6 m1 m4 m5 m6 m7 rn (ts_par hH (by omega) (by omega)) (by omega) hss⟩⟩
end IS
