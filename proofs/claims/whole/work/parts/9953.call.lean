/-! a call as a unit: both sides -/
section IS
variable {N : Nat} {E : EV} {σ σ1 σ2 τ τ1 τ2 : zS} {K K1 K2 : aK} {H H1 : Nat → Nat}
theorem BAD.wk {s s1 jj : Nat} {g : Int32 × zS} (h : BAD E N s1 g σ1 τ1) (hs : s < s1) (hj : jj ≤ 2 * (s1 - s)) (r : Rn N E.b jj τ τ1) (fc : rfr (sRC E.q) σ σ1) (fm : rfr (sRM E.b) τ τ1) : BAD E N s g σ τ := by
  obtain ⟨h1, j2, τ2, h2, h3, h4, h5, h6⟩ := h
  exact ⟨h1, jj + j2, τ2, by omega, r.tr h3, h4, fc.dd.tr h5, fm.nn.tr h6⟩
theorem sim_args {n s u Lc wt j d h f s1 e1 kd1 v1 w1 u1 L1 jj : Nat} {W : Nat → Nat} (hF : GL E N n 0 1 0 5) (hN : 200000 < N) (hW : ∀ i, wt ≤ i → i < wt + j → W i = 7) (hw0 : wt = 0 ∨ ¬ W (wt - 1) = 7) (hwx : W (wt + j) = 105) (fn : f < E.nf) (h28 : h ≤ 5 * (d + j) + 2) (d5 : d + j ≤ 5) (hwt : wt + j ≤ 8 * (d + j) + 6) (hLc : Lc ≤ 4 * u) (htk : ∀ f, f < E.nf → K.2.2.2 f = E.ar f) (hms : 7 * (6 - (d + j)) ≤ n + 1) (hg : AI E N K H Lc h u s (wt + j) f 0 (d + j + 1) W σ τ s1 e1 kd1 v1 w1 u1 K1 H1 L1 jj σ1 τ1) : p_X3_readArguments (h_rd N n) (g_rd N n) (nI (E.ar f)) (nI (d + j + 1)) N σ1 ∧ (BAD E N s (r_X3_readArguments (g_rd N n) (nI (E.ar f)) (nI (d + j + 1)) N σ1) σ τ ∨ CD E N K H Lc h u s wt j d f W (r_X3_readArguments (g_rd N n) (nI (E.ar f)) (nI (d + j + 1)) N σ1) σ τ) := by
  have hg0 := hg
  obtain ⟨hps, a1, a2, a3, a4, a5, ⟨a6, a7⟩, ⟨a8, a9⟩, b1, b2, b3, b4⟩ := hg
  have hps0 := hps
  obtain ⟨hE, hT, ⟨hu1, hu2, u80⟩, hC, hM, hS, h38, h39, h25⟩ := hps
  have n10 : ¬ (1 : Int32) = 0 := by decide
  have hn := hE.2.1.2.1
  have bb := hE.2.2.2.2.1.2.2
  have q3 := hE.2.2.2.2.1.2.1
  have nf6 := hE.2.2.1.1
  obtain ⟨ar4, -, ar5⟩ := hE.2.2.2.2.2.2.2 f fn
  have hkd := hT.kd
  by_cases ca : E.ar f = 0
  · have c0 : nI (E.ar f) = 0 := by rw [ca]; rfl
    by_cases ck : kd1 = 41
    · have k0 : σ1.1 3 2 = 41 := by rw [hT.2.2.2.2.2.1, ck]; rfl
      obtain ⟨p1, p2, s4, e4, kd4, v4, w4, p3, p4, p5, p6, p7, p8, p9, p10⟩ := rf_cend (N := N) (sg := 0) (i := 0) hE hT h25 h39 hS hW hw0 hM (by omega) h38 a2 a3 fn (by omega) (Or.inr ⟨rfl, rfl, ca⟩) hN (by omega) (by omega)
      have rn := rf_rp (N := N) hE hT h25 h39 hS hwx ck p2
      obtain ⟨z, hz⟩ : ∃ z, N = z + 1 := ⟨N - 1, by omega⟩
      obtain ⟨e1', e2'⟩ := ca_end (z := z) (N := N) (σ := σ1) (P := h_rd N n) (G := g_rd N n) (x2 := nI (d + j + 1)) (a := E.ar f) ar4 (fun _ => p1)
      rw [← hz] at e1' e2'
      have z0 : nI (E.ar f) = 0 := c0
      have e1'' : q_X3_readArguments (h_rd N n) (g_rd N n) N N (nI (E.ar f)) (nI (d + j + 1)) 0 σ1 := by
        have := e1'
        rw [z0] at this ⊢
        exact this
      have e2'' : l_X3_readArguments (g_rd N n) N N (nI (E.ar f)) (nI (d + j + 1)) 0 σ1 = r_X3_readSign 41 N σ1 := by
        have := e2'
        rw [z0] at this ⊢
        exact this
      have sg1 : r_X3_readSign 41 N σ1 = (1, s_X6_next N σ1) := (cl_sign (N := N) (c := 41) hT.2.2.2.2.2.1 (by omega) (by decide)).1 ck
      refine ⟨⟨fun y => absurd c0 y, fun _ => ⟨fun _ => e1'', fun y => absurd k0 y⟩⟩, Or.inr ?_⟩
      unfold r_X3_readArguments
      rw [if_pos c0, if_pos k0, e2'', sg1]
      have cN : ∀ Q jx, ¬ Q = 3 → (s_X6_next N σ1).1 Q jx = σ1.1 Q jx := fun Q jx y => p4.2 _ _ (fun z => y z.1)
      have o6 : ∀ Q jx, ¬ (sLa E.b Q jx ∨ (Q = 468 ∧ ((20 ≤ jx ∧ jx ≤ 24) ∨ (37 ≤ jx ∧ jx ≤ 39)))) → (s_X9_endCall (nI E.b) N τ1).1 Q jx = τ1.1 Q jx := p10.2
      have e34 := hT.2.2.2.1 (by omega)
      refine ⟨rfl, s4, e4, kd4, v4, w4, u1, K1, H1, L1, jj + 1, _, p3, hE.fr (rfr.tc p4) p10.cls, ⟨(cN _ _ (by omega)).trans hu1, ?_, u80⟩, hC.eq (fun Q jx y => cN _ _ (by omega)), p9, ?_, (cN _ _ (by omega)).trans a1, a4, ⟨by omega, by omega⟩, ⟨by omega, by omega⟩, ⟨by omega, by omega⟩, b1.tr rn, b2.tr (rfr.tc p4), b3.tr p10.cls, fun i hi => ⟨?_, ?_⟩, p7, p6, p8⟩
      · rw [o6 _ _ (fun z => by unfold sLa at z; omega)]; exact hu2
      · rw [o6 _ _ (fun z => by unfold sLa at z; omega)]; exact h25
      · rw [o6 _ _ (fun z => by unfold sLa at z; omega), (b4 i (by omega)).1]
      · rw [o6 _ _ (fun z => by unfold sLa at z; omega), (b4 i (by omega)).2]
    · -- one formula too many
      have k0 : ¬ σ1.1 3 2 = 41 := by
        rw [hT.2.2.2.2.2.1]
        exact fun y => ck ((nI_eq (b := 41) (by omega) (by decide)).mp y)
      have h33 : σ1.1 3 3 = nI s1 := hT.2.2.2.2.2.2.1
      obtain ⟨tm2, tm1⟩ := tm_s5 (E := E) (sg := 0) bb hS hwx h39 a2 (by omega) ar5 ar4 rfl
      have ntm : ¬ f_X9_isTooMany (nI E.b) τ1 = 0 := fun y => (tm1.mp y) ca
      have fS : rfr (sRC E.q) σ1 (zuI σ1 2 6 (nI s1)) := rfr.rf.uI (by unfold sRC; omega)
      have hps1 : PS E s1 e1 kd1 v1 w1 u1 K1 L1 L1 (wt + j + 1) W (d + j + 1) 0 (zuI σ1 2 6 (nI s1)) τ1 := ⟨hE.fr fS rfr.rf, hT.eq (fun jx _ _ => gI_n (by omega)) (fun _ _ _ => rfl), ⟨(gI_n (by omega)).trans hu1, hu2, u80⟩, hC.eq (fun Q jx y => gI_n (by omega)), hM, hS, h38, h39, h25⟩
      have bt0 : bndT (wt + j + 1) W = 0 := by
        unfold bndT
        rw [if_neg (by omega), show wt + j + 1 - 1 = wt + j by omega, hwx]
        rfl
      obtain ⟨g1, g2⟩ := hF s1 e1 kd1 v1 w1 u1 K1 H1 L1 (wt + j + 1) (d + j + 1) 0 (h + 0) W (zuI σ1 2 6 (nI s1)) τ1 hps1 (Or.inr (by rw [show wt + j + 1 - 1 = wt + j by omega, hwx]; decide)) (by omega) (by omega) (fun _ => rfl) (Or.inr ⟨ntm, gI_h rfl rfl⟩) tm2 (fun _ => ⟨Or.inl rfl, fun _ => ck⟩) a5 (by omega) (by omega) (by omega) (by omega) (fun f hf => by rw [a4.1.2]; exact htk f hf) (by omega)
      have gb : BAD E N s1 (g_rd N n 0 (nI (d + j + 1)) 0 (zuI σ1 2 6 (nI s1))) (zuI σ1 2 6 (nI s1)) τ1 := by
        rcases g2 with y | y
        · exact y
        · exact absurd y.1 ntm
      have eu : u_X3_readArguments_1 (g_rd N n) (nI (E.ar f)) (nI (d + j + 1)) N σ1 = zuI σ1 2 6 (nI s1) := by
        unfold u_X3_readArguments_1
        rw [h33]
      refine ⟨⟨fun y => absurd c0 y, fun _ => ⟨fun y => absurd y k0, fun _ => ?_⟩⟩, Or.inl ?_⟩
      · rw [eu]
        exact ⟨g1, Or.inl gb.1⟩
      · unfold r_X3_readArguments
        rw [if_pos c0, if_neg k0]
        unfold u_X3_readArguments_2
        rw [eu]
        exact gb.wk a8 a9 b1 (b2.tr fS) b3
  · have c0 : ¬ nI (E.ar f) = 0 := nI_ne0 (by omega) (by omega)
    obtain ⟨m, hm⟩ : ∃ m, E.ar f = 0 + (m + 1) := ⟨E.ar f - 1, by omega⟩
    obtain ⟨z, hz⟩ : ∃ z, N = z + m + 1 + 1 := ⟨N - m - 2, by omega⟩
    obtain ⟨x1, x2⟩ := args_loop hF hN hW hw0 hwx fn h28 d5 hwt hLc htk hms m 0 s1 e1 kd1 v1 w1 u1 K1 H1 L1 jj σ1 τ1 hm.symm hg0 z
    rw [← hz] at x1 x2
    refine ⟨⟨fun _ => x1, fun y => absurd y c0⟩, ?_⟩
    unfold r_X3_readArguments
    rw [if_neg c0]
    exact x2
/-- a name that a ( stands behind -/
theorem sim_call {n s e kd v w u Lc wt j d sg h : Nat} {W : Nat → Nat} (hF : GL E N n 0 1 0 5) (hh : PS E s e kd v w u K Lc Lc (wt + j) W (d + j) sg σ τ) (hN : 200000 < N) (hW : ∀ i, wt ≤ i → i < wt + j → W i = 7) (hw0 : wt = 0 ∨ ¬ W (wt - 1) = 7) (sg2 : sg ≤ 1) (hsp : SP E.b s σ τ) (hp : p_X9_isTooMany (nI E.b) τ) (hk : sg = 0 → ¬ kd = 320 ∧ (tpW (wt + j) W = 105 → ¬ kd = 41)) (hH : H Lc = h) (h28 : h ≤ 5 * (d + j) + 2) (d6 : d + j ≤ 6) (hwt : wt + j ≤ 8 * (d + j) + 6) (hLc : Lc ≤ 4 * u) (htk : ∀ f, f < E.nf → K.2.2.2 f = E.ar f) (hms : 7 * (6 - (d + j)) ≤ n + 1) (kk : kd = 303) (ko : ¬ f_X9_isOpenBehind N τ = 0) : h_rd N (n + 1 + 1 + 1) 3 (nI (d + j)) 0 σ ∧ RES E N K H Lc h u s wt (g_rd N (n + 1 + 1 + 1) 3 (nI (d + j)) 0 σ) σ τ (QU E wt j d W) := by
  obtain ⟨hE, hT, ⟨hu1, hu2, u80⟩, hC, hM, hS, h38, h39, h25⟩ := hh
  have hE0 := hE
  obtain ⟨hTC, hTM, hNF, -, ⟨q1, q3, b2⟩, ⟨hf1, hf2⟩, ⟨hp1, hp2⟩, -⟩ := hE
  have hn := hTM.2.1
  have hse := hT.1
  have hen := hT.2.1
  have hs1 : s ≤ 1000 := by omega
  have h33 : σ.1 3 3 = nI s := hT.2.2.2.2.2.2.1
  have h34 : σ.1 3 4 = nI e := hT.2.2.2.2.2.2.2.1
  have h21 := hT.2.2.2.2.2.2.2.2.2.1
  have h20 := hT.2.2.2.2.2.2.2.2.2.2.1
  have c2 : σ.1 3 2 = 303 := by rw [hT.2.2.2.2.2.1, kk]; rfl
  have hl := ly_q q3
  have n10 : ¬ (1 : Int32) = 0 := by decide
  obtain ⟨n1, -, o1, s2, e2, k2, v2, w2, t1, t2, -, t2s, o2⟩ := pr_next (N := N) (p := e) hTC hTM h34 h20 hen (by omega)
  have k40 : k2 = 40 := Classical.byContradiction fun y => by
    rw [if_neg y] at o2
    exact ko o2
  have hk40 : (s_X6_next N σ).1 3 2 = 40 := by rw [t1.2.2.2.2.2.1, k40]; rfl
  have hE1 : EN E (s_X6_next N σ) τ := hE0.fr (rfr.tc t2) rfr.rf
  obtain ⟨x1, x2, -⟩ := pr_pname (N := N) (s := s) (e := e) hE1.1 hTM hE1.2.2.2.1 hE1.2.2.2.2.2.2.1.1 hp2 h21 h20 hse hen (by omega)
  obtain ⟨y1, y2, x3⟩ := pr_fname (N := N) (s := s) (e := e) hE1.1 hTM hE1.2.2.1 hE1.2.2.2.2.1.1 hl hE1.2.2.2.2.2.1.1 h21 h20 hse hen (by omega)
  rw [← hf2] at y2
  have nf6 := hNF.1
  have hu3 : (s_X6_next N σ).1 E.q 8 = nI u := (t2.2 _ _ (fun z => by unfold sTC at z; omega)).trans hu1
  have hq1 : (s_X6_next N σ).2 2 1 = E.q + 1 := hE1.2.2.2.2.1.1
  have ntm := sp_tm (u := u) (d := d + j) hsp h33 hs1
  have hun : ∀ x : Int32, (tmU u (d + j) σ ∧ x = 1) ∨ (¬ tmU u (d + j) σ ∧ x = 0) → ((r_X3_readNamed (g_rd N (n + 1)) (nI (d + j)) x N σ).1 = 0 ∨ (r_X3_readNamed (g_rd N (n + 1)) (nI (d + j)) x N σ).1 = 1) → p_X3_readNamed (h_rd N (n + 1)) (g_rd N (n + 1)) (nI (d + j)) x N σ → h_rd N (n + 1 + 1 + 1) 3 (nI (d + j)) 0 σ ∧ g_rd N (n + 1 + 1 + 1) 3 (nI (d + j)) 0 σ = r_X3_readNamed (g_rd N (n + 1)) (nI (d + j)) x N σ := fun x hx h01 hpx => cu_nam (N := N) (P := h_rd N (n + 1 + 1)) (G := g_rd N (n + 1 + 1)) (kd := 303) (d := d + j) q1 hl hu1 u80 (by omega) c2 (by omega) hx hpx h01
  obtain ⟨r1, r2⟩ := ru_head (N := N) (b := E.b) hT hTM h25 hS h39 sg2 (fun y1 y2 => (hk y1).2 y2)
  rw [if_neg (by omega), if_neg (by omega)] at r1 r2
  obtain ⟨N1, hN1⟩ : ∃ z, N = z + 8 := ⟨N - 8, by omega⟩
  have hw : sg = 0 → f_X9_isWord 10 τ = 0 := fun y => by
    have e : f_X9_isWord (nI 10) τ = if kd = 310 + 10 then 1 else 0 := rk_word hT h25 (by decide)
    have e : f_X9_isWord 10 τ = if kd = 310 + 10 then 1 else 0 := e
    rw [e, if_neg (hk y).1]
  have fC1 : rfr (sRC E.q) σ (s_X6_next N σ) := rfr.tc t2
  rcases x3 with ⟨z1, z2⟩ | ⟨f, fn, z1, z2⟩
  · -- no such function
    rw [← hf2] at z2
    rw [← h33, ← h34] at z1 y1
    obtain ⟨d3, -⟩ := ru_nam (N := N) (b := E.b) (z := N1) (k2 := k2) (f := 0) (p := 0) hT h25 b2 hp kk o1 o2 y2 z2 x2 rfl
    obtain ⟨d4, d5⟩ := d3 k40 rfl
    rw [← hN1] at d4 d5
    rw [← r1] at d5
    have rn := rn_unit (N := N) (b := E.b) h25 h39 sg2 hw (r2 d4)
    obtain ⟨f1, f2⟩ := ft_of (E := E) (σ := s_X6_next N σ) (c := 4) (x := 4) (y := σ.1 3 3) (by decide) (by decide) hs1 rfl h33 d5 h21
    have fin : ∀ x : Int32, (tmU u (d + j) σ ∧ x = 1) ∨ (¬ tmU u (d + j) σ ∧ x = 0) → h_rd N (n + 1 + 1 + 1) 3 (nI (d + j)) 0 σ ∧ RES E N K H Lc h u s wt (g_rd N (n + 1 + 1 + 1) 3 (nI (d + j)) 0 σ) σ τ (QU E wt j d W) := fun x hx => by
      have ex := (cn_call0 (N := N) (σ := σ) (G := g_rd N (n + 1)) (x1 := nI (d + j)) (x2 := x) (f := 0) hk40 (by decide)).1 z1
      have px : p_X3_readNamed (h_rd N (n + 1)) (g_rd N (n + 1)) (nI (d + j)) x N σ := cn_callp (q := E.q) (u := u) (f := 0) (a := 0) n1 hk40 (by decide) y1 (Or.inr z1) hl (fun _ y => absurd (z1.symm.trans y) (by decide))
      obtain ⟨a1, a2⟩ := hun x hx (Or.inl (by rw [ex])) px
      rw [a2, ex]
      exact ⟨a1, Or.inl ⟨rfl, 1, _, by omega, rn, ⟨f1, ft_L hM d5 (by omega)⟩, rc_ref fC1, f2⟩⟩
    by_cases c : tmU u (d + j) σ
    · exact fin 1 (Or.inl ⟨c, rfl⟩)
    · exact fin 0 (Or.inr ⟨c, rfl⟩)
  · rw [← hf2] at z2
    rw [← h33, ← h34] at z1 y1
    obtain ⟨-, d3, -⟩ := ru_nam (N := N) (b := E.b) (z := N1) (k2 := k2) (f := f) (p := 0) hT h25 b2 hp kk o1 o2 y2 z2 x2 rfl
    obtain ⟨d4, d5⟩ := d3 k40 rfl (by omega)
    rw [← hN1, ← r1] at d4
    rw [← hN1] at d5
    obtain ⟨y3, y4⟩ := ru_cnt (N := N) (z := N1 + 1) (v2 := 0) (v3 := 0) (v4 := 1) (v5 := nI f) (v6 := -1) h25 b2 hp hu2 u80 h38 (by omega)
    by_cases ct : u = 80 ∨ 5 < d + j ∨ ¬ f_X9_isTooMany (nI E.b) τ = 0
    · obtain ⟨a1, a2⟩ := y3 ct
      have a2 : FLm 5 τ (s_X9_readUnit (nI E.b) N τ) := by rw [d4]; exact a2
      have rn := rn_unit (N := N) (b := E.b) h25 h39 sg2 hw (r2 (d5 a1))
      obtain ⟨f1, f2⟩ := ft_of (E := E) (σ := s_X6_next N σ) (c := 5) (x := 5) (y := σ.1 3 3) (by decide) (by decide) hs1 rfl h33 a2 h21
      have ex := (cn_call0 (N := N) (σ := σ) (G := g_rd N (n + 1)) (x1 := nI (d + j)) (x2 := 1) (f := f) hk40 (by omega)).2 z1 (by decide)
      have px : p_X3_readNamed (h_rd N (n + 1)) (g_rd N (n + 1)) (nI (d + j)) 1 N σ := cn_callp (q := E.q) (u := u) (f := f) (a := 0) n1 hk40 (by omega) y1 (Or.inl z1) hl (fun y => absurd y (by decide))
      obtain ⟨b1, b3⟩ := hun 1 (Or.inl ⟨ntm.mpr ct, rfl⟩) (Or.inl (by rw [ex])) px
      rw [b3, ex]
      exact ⟨b1, Or.inl ⟨rfl, 1, _, by omega, rn, ⟨f1, ft_L hM a2 (by omega)⟩, rc_ref fC1, f2⟩⟩
    · have htm : f_X9_isTooMany (nI E.b) τ = 0 := Classical.byContradiction fun z => ct (Or.inr (Or.inr z))
      have h26 := sp_no hsp htm
      have u79 : ¬ u = 80 := fun z => ct (Or.inl z)
      have d5' : ¬ 5 < d + j := fun z => ct (Or.inr (Or.inl z))
      have ntm' : ¬ tmU u (d + j) σ := fun z => ct (ntm.mp z)
      clear ct
      obtain ⟨a1, a2⟩ := y4 (by omega) (by omega) htm
      -- the reference: past the (
      have hTM1 : TM E.nb E.tx (zuI τ 478 E.b (nI (u + 1))) := hTM.eq (fun Q jx y => gI_n (by omega))
      obtain ⟨-, m2, -, s3, e3, k3, v3, w3, t4, -, t6, t7, -⟩ := pr_next (N := N) (p := e) hTC hTM1 h34 ((gI_n (by omega)).trans h20) hen (by omega)
      generalize hτs : s_X9_scan N (zuI τ 478 E.b (nI (u + 1))) = τs at *
      have oS : ∀ Q jx, ¬ ((Q = 468 ∧ 20 ≤ jx ∧ jx ≤ 24) ∨ (Q = 478 ∧ jx = E.b)) → τs.1 Q jx = τ.1 Q jx := fun Q jx y => by rw [t6.2 _ _ (fun z => by unfold sTM at z; omega), gI_n (by omega)]
      have hSs : SKs τs (wt + j) W := hS.eq (oS _ _ (by omega)) (fun i _ => oS _ _ (by omega))
      obtain ⟨p1, p2, p3⟩ := rf_push (x := nI f) (y := 0) (o := 105) hSs (by omega) (by omega)
      have oP : ∀ Q jx, ¬ ((489 ≤ Q ∧ Q ≤ 491 ∧ jx = wt + j) ∨ (Q = 468 ∧ jx = 37)) → (s_X9_push (nI 105) (nI f) 0 τs).1 Q jx = τs.1 Q jx := fun Q jx y => by rw [p2, gI_n (by omega), gI_n (by omega), gI_n (by omega), gI_n (by omega)]
      generalize hτp : zuI (zuI (s_X9_push (nI 105) (nI f) 0 τs) 468 38 (nI (d + j + 1))) 468 39 0 = τp
      have oQ : ∀ Q jx, ¬ ((489 ≤ Q ∧ Q ≤ 491 ∧ jx = wt + j) ∨ (Q = 468 ∧ 37 ≤ jx ∧ jx ≤ 39)) → τp.1 Q jx = τs.1 Q jx := fun Q jx y => by rw [← hτp, gI_n (by omega), gI_n (by omega), oP _ _ (by omega)]
      have fs : rfr (sRM E.b) τ τs := ((rfr.rf.uI (show sRM E.b 478 E.b from Or.inr (Or.inl ⟨rfl, rfl⟩))).tr (rfr.tm t6))
      have fp : rfr (sRM E.b) τs τp := ⟨by rw [← hτp]; show (s_X9_push (nI 105) (nI f) 0 τs).2 = τs.2; rw [p2]; rfl, fun Q jx y => oQ Q jx (fun z => y (by unfold sRM; omega))⟩
      have hE2 : EN E (zuI (s_X6_next N σ) E.q 8 (nI (u + 1))) τp := hE1.fr (rfr.rf.uI (Or.inr (Or.inr (Or.inl ⟨rfl, Or.inl rfl⟩)))) (fs.tr fp)
      obtain ⟨m3, m4, -, s4, e4, k4, v4, w4, g1, g2, g3, g4, -⟩ := pr_next (N := N) (p := e3) hE2.1 hE2.2.1 ((gI_n (by omega)).trans t4.2.2.2.2.2.2.2.1) ((oQ _ _ (by omega)).trans t4.2.2.2.2.2.2.2.2.2.2.1) t4.2.1 (by omega)
      have oT : ∀ Q jx, ¬ (Q = 468 ∧ 20 ≤ jx ∧ jx ≤ 24) → (s_X9_scan N τp).1 Q jx = τp.1 Q jx := g3.2
      have s39 : (s_X9_scan N τp).1 468 39 = 0 := by rw [oT _ _ (by omega), ← hτp]; exact gI_h rfl rfl
      obtain ⟨c1, c3⟩ := ru_call (N := N) (b := E.b) (z := N1 + 1) (v5 := nI f) (v6 := -1) (d := d + j) h25 b2 hu2 (by rw [hτs] at *; exact m2) (by rw [hτs]; exact p1) (by rw [hτs, oP _ _ (by omega), oS _ _ (by omega)]; exact h38) (by rw [hτs, hτp]; exact m4) (by rw [hτs, hτp, s39]; decide)
      rw [hτs, hτp] at c3
      have rn := rn_unit (N := N) (b := E.b) h25 h39 sg2 hw (r2 (d5 (a2 c1)))
      have ex0 : s_X9_readUnit (nI E.b) N τ = s_X9_scan N τp := by rw [d4, ← c3]; exact a1
      rw [ex0] at rn
      have fC2 : rfr (sRC E.q) σ (s_X6_next N (zuI (s_X6_next N σ) E.q 8 (nI (u + 1)))) := (fC1.uI (show sRC E.q E.q 8 from Or.inr (Or.inr (Or.inl ⟨rfl, Or.inl rfl⟩)))).tr (rfr.tc g2)
      have fM2 : rfr (sRM E.b) τ (s_X9_scan N τp) := (fs.tr fp).tr (rfr.tm g3)
      have cN : ∀ Q jx, ¬ Q = 3 → (s_X6_next N (zuI (s_X6_next N σ) E.q 8 (nI (u + 1)))).1 Q jx = (zuI (s_X6_next N σ) E.q 8 (nI (u + 1))).1 Q jx := fun Q jx y => g2.2 _ _ (fun z => y z.1)
      have cN1 : ∀ Q jx, ¬ Q = 3 → (s_X6_next N σ).1 Q jx = σ.1 Q jx := fun Q jx y => t2.2 _ _ (fun z => y z.1)
      have hss : s < s4 := by
        have := hT.2.2.2.1 (by omega)
        have := t4.1
        omega
      have hAI : AI E N K H Lc h u s (wt + j) f 0 (d + j + 1) (fun i => if i = wt + j then 105 else W i) σ τ s4 e4 k4 v4 w4 (u + 1) K H Lc 1 (s_X6_next N (zuI (s_X6_next N σ) E.q 8 (nI (u + 1)))) (s_X9_scan N τp) := by
        refine ⟨⟨hE0.fr fC2 fM2, g1, ⟨(cN _ _ (by omega)).trans (gI_h rfl rfl), ?_, by omega⟩, hC.eq (fun Q jx y => by rw [cN _ _ (by omega), gI_n (by omega), cN1 _ _ (by omega)]), hM.eq (fun Q jx y => by rw [oT _ _ (by omega), oQ _ _ (by omega), oS _ _ (by omega)]), p3.eq ?_ (fun i _ => ?_), ?_, s39, ?_⟩, ?_, ?_, ?_, TS.rf, hH, ⟨by omega, by omega⟩, ⟨hss, by omega⟩, rn, fC2, fM2, fun i hi => ⟨?_, ?_⟩⟩
        · rw [oT _ _ (by omega), oQ _ _ (by omega), t6.2 _ _ (fun z => by unfold sTM at z; omega)]
          exact gI_h rfl rfl
        · rw [oT _ _ (by omega), ← hτp, gI_n (by omega), gI_n (by omega)]
        · rw [oT _ _ (by omega), ← hτp, gI_n (by omega), gI_n (by omega)]
        · rw [oT _ _ (by omega), ← hτp, gI_n (by omega)]; exact gI_h rfl rfl
        · rw [oT _ _ (by omega), oQ _ _ (by omega), oS _ _ (by omega)]; exact h25
        · rw [cN _ _ (by omega), gI_n (by omega), cN1 _ _ (by omega)]; exact h26
        · rw [oT _ _ (by omega), ← hτp, gI_n (by omega), gI_n (by omega), p2, gI_n (by omega), gI_n (by omega)]; exact gI_h rfl rfl
        · rw [oT _ _ (by omega), ← hτp, gI_n (by omega), gI_n (by omega), p2, gI_n (by omega)]; exact gI_h rfl rfl
        · rw [oT _ _ (by omega), oQ _ _ (by omega), oS _ _ (by omega)]
        · rw [oT _ _ (by omega), oQ _ _ (by omega), oS _ _ (by omega)]
      obtain ⟨q5, q6⟩ := sim_args (wt := wt) (j := j) (d := d) (W := fun i => if i = wt + j then 105 else W i) hF hN (fun i i1 i2 => by
        show (if i = wt + j then 105 else W i) = 7
        rw [if_neg (by omega)]
        exact hW i i1 i2) (by
        rcases hw0 with y | y
        · exact Or.inl y
        · by_cases c : wt = 0
          · exact Or.inl c
          · right
            show ¬ (if wt - 1 = wt + j then 105 else W (wt - 1)) = 7
            rw [if_neg (by omega)]
            exact y) (if_pos rfl) fn h28 (by omega) hwt hLc htk (by omega) hAI
      have ed : nI (d + j) + 1 = nI (d + j + 1) := by rw [nI_1]
      have hq7 : (s_X6_next N (zuI (s_X6_next N σ) E.q 8 (nI (u + 1)))).2 2 1 = E.q + 1 := (hE0.fr fC2 fM2).2.2.2.2.1.1
      obtain ⟨-, har, -⟩ := (hE0.fr fC2 fM2).2.2.2.2.2.2.2 f fn
      have eG : g_rd N (n + 1) 5 (nI (E.ar f)) (nI (d + j) + 1) (s_X6_next N (zuI (s_X6_next N σ) E.q 8 (nI (u + 1)))) = r_X3_readArguments (g_rd N n) (nI (E.ar f)) (nI (d + j + 1)) N (s_X6_next N (zuI (s_X6_next N σ) E.q 8 (nI (u + 1)))) := by rw [ed]; rfl
      have eP : h_rd N (n + 1) 5 (nI (E.ar f)) (nI (d + j) + 1) (s_X6_next N (zuI (s_X6_next N σ) E.q 8 (nI (u + 1)))) := by rw [ed]; exact q5
      obtain ⟨cc1, cc2⟩ := cn_call (N := N) (σ := σ) (G := g_rd N (n + 1)) (x1 := nI (d + j)) (f := f) (a := E.ar f) (q := E.q) (u := u) hk40 (by omega) z1 hq1 hu3 hq7 har
      rw [eG] at cc1 cc2
      generalize hgA : r_X3_readArguments (g_rd N n) (nI (E.ar f)) (nI (d + j + 1)) N (s_X6_next N (zuI (s_X6_next N σ) E.q 8 (nI (u + 1)))) = gA at *
      rcases q6 with q6 | ⟨gg, s5, e5, k5, v5, w5, u5, K5, H5, L5, jj, τ5, a1', a2', ⟨a31, a32, a33⟩, a4, a5, a6, a7, a8, ⟨a91, a92⟩, ⟨b1', b2'⟩, ⟨b3', b4'⟩, b5, b6, b7, b8, b9, b10, b11⟩
      · have ex := cc1 q6.1
        have px : p_X3_readNamed (h_rd N (n + 1)) (g_rd N (n + 1)) (nI (d + j)) 0 N σ := cn_callp (q := E.q) (u := u) (f := f) (a := E.ar f) n1 hk40 (by omega) y1 (Or.inl z1) hl (fun _ _ => ⟨hq1, hu3, m3, hq7, har, eP, fun y => by rw [eG] at y; exact absurd q6.1 y⟩)
        obtain ⟨b1, b3⟩ := hun 0 (Or.inr ⟨ntm', rfl⟩) (Or.inl (by rw [ex])) px
        rw [b3, ex]
        obtain ⟨h1, h2⟩ := q6
        exact ⟨b1, Or.inl ⟨rfl, h2⟩⟩
      · have ag : agK K5 (miK (seK K5 L5 8 (nI f)) (L5 + 1) j) L5 := seK_ag.tr miK_ag (by omega)
        have kL : (miK (seK K5 L5 8 (nI f)) (L5 + 1) j).1 L5 = 8 ∧ (miK (seK K5 L5 8 (nI f)) (L5 + 1) j).2.1 L5 = nI f := ⟨(miK_ag.1 L5 (by omega)).1.trans seK_o.1, (miK_ag.1 L5 (by omega)).2.trans seK_o.2⟩
        obtain ⟨l1, l2, l3, l4⟩ := cl_emit (x := 12) (y := nI f) (a4.ag ag) (by omega) (by rw [kL.1]; rfl) kL.2.symm
        have gn : ¬ gA.1 = 0 := by rw [gg]; exact n10
        have hqA := a2'.2.2.2.2.1.1
        have ex := cc2 gn hqA
        have px : p_X3_readNamed (h_rd N (n + 1)) (g_rd N (n + 1)) (nI (d + j)) 0 N σ := cn_callp (q := E.q) (u := u) (f := f) (a := E.ar f) n1 hk40 (by omega) y1 (Or.inl z1) hl (fun _ _ => ⟨hq1, hu3, m3, hq7, har, eP, fun _ => by rw [eG]; exact ⟨hqA, l1⟩⟩)
        obtain ⟨b1, b3⟩ := hun 0 (Or.inr ⟨ntm', rfl⟩) (Or.inr (by rw [ex])) px
        rw [b3, ex]
        have cE : ∀ Q jx, ¬ sEm E.q Q jx → (r_X2_emit E.q 12 (nI f) gA.2).2.1 Q jx = gA.2.1 Q jx := l4.2
        have ktk : K5.2.2.2 f = E.ar f := by rw [a8.1.2]; exact htk f fn
        refine ⟨b1, Or.inr ⟨htm, rfl, s5, e5, k5, v5, w5, u5, miK (seK K5 L5 8 (nI f)) (L5 + 1) j, seH H5 (L5 + 1) (h + 1), L5 + 1, jj, τ5, a1'.eq (fun jx _ _ => cE _ _ (fun z => by unfold sEm at z; omega)) (fun _ _ _ => rfl), a2'.fr (rfr.em l4) rfr.rf, ⟨(cE _ _ (fun z => by unfold sEm at z; omega)).trans a31, a32, a33⟩, l3, a5, a6, (cE _ _ (fun z => by unfold sEm at z; omega)).trans a7, a8.tr ((ts_call fn (by rw [ktk]; exact a91) (by rw [ktk]; exact a92)).ag miK_ag), ⟨seH_o, by omega⟩, ⟨by omega, by omega⟩, ⟨b3', b4'⟩, b5, b6.tr (rfr.em l4), b7, b8, b9, ?_, b11, fun i i1 i2 => miK_m i1 i2⟩⟩
        exact b10.ww (fun i hi => if_neg (by omega))
/-- a unit, whatever it begins with -/
theorem sim_unit {n : Nat} (hU : GU E N (n + 1 + 1)) (hF2 : GL E N (n + 1 + 1) 0 1 0 5) (hF : GL E N n 0 1 0 5) (hN : 200000 < N) : GU E N (n + 1 + 1 + 1) := by
  intro s e kd v w u K H Lc wt j d sg h W σ τ p1 p2 p3 p4 p5 p6 p7 p8 p9 p10 p11 p12 p13 p14
  by_cases k1 : kd = 303
  · by_cases ko : f_X9_isOpenBehind N τ = 0
    · exact sim_prm (n := n + 1) p1 hN p2 p3 p4 p5 p6 p7 p8 p9 p10 p12 k1 ko
    · exact sim_call hF p1 hN p2 p3 p4 p5 p6 p7 p8 p9 p10 p11 p12 p13 (by omega) k1 ko
  · by_cases k2 : kd = 302
    · exact sim_num (n := n + 1 + 1) p1 hN p2 p3 p4 p5 p6 p7 p8 p9 p10 p12 k2
    · by_cases k3 : kd = 40
      · exact sim_paren hF2 p1 hN p2 p3 p4 p5 p6 p7 p8 p9 p10 p11 p12 p13 (by omega) k3
      · by_cases k5 : kd = 45
        · exact sim_min hU p1 hN p2 p3 p4 p5 p6 p7 p8 p9 p10 p11 p12 p13 (by omega) k5
        · obtain ⟨x1, x2⟩ := sim_bad (n := n + 1 + 1) p1 hN p4 p6 p7 (by omega) k1 k2 k3 k5 (by have := p1.2.2.1.2.2; omega)
          exact ⟨x1, Or.inl x2⟩
/-- all of it, by the depth of the recursion -/
theorem sim_all (hN : 200000 < N) (q3 : E.q = 16 ∨ E.q = 23) : ∀ m n, n ≤ m → GU E N n ∧ GL E N n 0 1 0 5 ∧ GL E N n 1 1 0 4 ∧ GL E N n 2 2 1 3 := by
  intro m
  induction m with
  | zero =>
    intro n hn
    refine ⟨fun s e kd v w u K H Lc wt j d sg h W σ τ p1 p2 p3 p4 p5 p6 p7 p8 p9 p10 p11 p12 p13 p14 => by omega, fun s e kd v w u K H Lc wt d sg h W σ τ p1 p2 p3 p4 p5 p6 p7 p8 p9 p10 p11 p12 p13 p14 p15 => by omega, fun s e kd v w u K H Lc wt d sg h W σ τ p1 p2 p3 p4 p5 p6 p7 p8 p9 p10 p11 p12 p13 p14 p15 => by omega, fun s e kd v w u K H Lc wt d sg h W σ τ p1 p2 p3 p4 p5 p6 p7 p8 p9 p10 p11 p12 p13 p14 p15 => by omega⟩
  | succ m ih =>
    intro n hn
    by_cases c : n ≤ m
    · exact ih n c
    · obtain rfl : n = m + 1 := by omega
      obtain ⟨a1, a2, a3, a4⟩ := ih m (Nat.le_refl _)
      refine ⟨?_, sim_form a3 a2 hN, sim_sum hN q3 a4, sim_term hN q3 a1.gl⟩
      by_cases c2 : 2 ≤ m
      · obtain ⟨k, rfl⟩ : ∃ k, m = k + 1 + 1 := ⟨m - 2, by omega⟩
        exact sim_unit a1 a2 (ih k (by omega)).2.1 hN
      · exact fun s e kd v w u K H Lc wt j d sg h W σ τ p1 p2 p3 p4 p5 p6 p7 p8 p9 p10 p11 p12 p13 p14 => by omega
end IS
