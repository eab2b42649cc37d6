/-! the formulas of a call: both sides -/
section IS
variable {N : Nat} {E : EV} {σ σ1 σ2 τ τ1 τ2 : zS} {K K1 K2 : aK} {H H1 : Nat → Nat}
theorem tm_s5 {x f a sg : Nat} {W : Nat → Nat} (b2 : E.b < 2) (hS : SKs τ (x + 1) W) (hw : W x = 105) (h39 : τ.1 468 39 = 0) (h90 : τ.1 490 x = nI f) (f6 : f < 6) (ha : τ.1 481 (6 * E.b + f) = nI a) (a4 : a ≤ 4) (hsg : sg = 0) : p_X9_isTooMany (nI E.b) τ ∧ (f_X9_isTooMany (nI E.b) τ = 0 ↔ ¬ a = 0) := by
  have tp : f_X9_top τ = 105 := top_at (c := 105) hS hw
  have hw1 := hS.2.1
  have cw : (τ.1 468 37 - 1).toNatClampNeg = x := by
    rw [hS.1, nI_s1 (by omega), nI_clamp (by omega)]
    omega
  have vw : vp_in (τ.1 468 37 - 1) 200 := by
    rw [hS.1, nI_s1 (by omega)]
    exact vp_in_nI (by omega) (by decide)
  have e6 : (6 : Int32) * nI E.b + nI f = nI (6 * E.b + f) := by rw [show (6 : Int32) = nI 6 from rfl, pk_mul, nI_add]
  have v6 : vp_in (nI (6 * E.b + f)) 12 := vp_in_nI (by omega) (by decide)
  have c6 : (nI (6 * E.b + f)).toNatClampNeg = 6 * E.b + f := nI_clamp (by omega)
  unfold p_X9_isTooMany f_X9_isTooMany
  rw [h39, tp, cw, h90, e6, c6, ha, if_pos rfl, if_pos rfl]
  refine ⟨fun _ => ⟨hS.top.1, fun _ => ⟨vw, v6⟩⟩, ?_⟩
  by_cases c : a = 0
  · rw [c, if_pos (show nI 0 = 0 from rfl)]
    exact ⟨fun y => absurd y (by decide), fun y => absurd rfl y⟩
  · rw [if_neg (nI_ne0 (by omega) (by omega))]
    exact ⟨fun _ => c, fun _ => rfl⟩
/-- the end of a call: CALL is laid, and all is closed -/
theorem rf_cend {s1 e1 kd1 v1 w1 wt j d L1 f i sg : Nat} {W : Nat → Nat} (hE : EN E σ1 τ1) (hT : TKs E.tx E.nb s1 e1 kd1 v1 w1 σ1 τ1) (h25 : τ1.1 468 25 = 0) (h39 : τ1.1 468 39 = nI sg) (hS : SKs τ1 (wt + j + 1) W) (hW : ∀ i, wt ≤ i → i < wt + j → W i = 7) (h0 : wt = 0 ∨ ¬ W (wt - 1) = 7) (hM : MKc τ1 E.b K1 L1) (hL : L1 + 1 + j ≤ 400) (h38 : τ1.1 468 38 = nI (d + j + 1)) (h90 : τ1.1 490 (wt + j) = nI f) (h91 : τ1.1 491 (wt + j) = nI i) (fn : f < E.nf) (i4 : i ≤ 4) (hc : (sg = 2 ∧ i + 1 = E.ar f) ∨ (sg = 0 ∧ i = 0 ∧ E.ar f = 0)) (hN : 200000 < N) (j9 : j ≤ 100) (d9 : d ≤ 100) : p_X6_next N σ1 ∧ p_X9_endCall (nI E.b) N τ1 ∧ ∃ s2 e2 kd2 v2 w2, TKs E.tx E.nb s2 e2 kd2 v2 w2 (s_X6_next N σ1) (s_X9_endCall (nI E.b) N τ1) ∧ rfr sTC σ1 (s_X6_next N σ1) ∧ e1 ≤ s2 ∧ SKs (s_X9_endCall (nI E.b) N τ1) wt W ∧ MKc (s_X9_endCall (nI E.b) N τ1) E.b (miK (seK K1 L1 8 (nI f)) (L1 + 1) j) (L1 + 1 + j) ∧ (s_X9_endCall (nI E.b) N τ1).1 468 38 = nI d ∧ (s_X9_endCall (nI E.b) N τ1).1 468 39 = 2 ∧ rfr (fun Q jx => sLa E.b Q jx ∨ (Q = 468 ∧ ((20 ≤ jx ∧ jx ≤ 24) ∨ (37 ≤ jx ∧ jx ≤ 39)))) τ1 (s_X9_endCall (nI E.b) N τ1) := by
  have b2 := hE.2.2.2.2.1.2.2
  have nf6 := hE.2.2.1.1
  obtain ⟨ar4, -, ar5⟩ := hE.2.2.2.2.2.2.2 f fn
  have ag : agK K1 (miK (seK K1 L1 8 (nI f)) (L1 + 1) j) L1 := seK_ag.tr miK_ag (by omega)
  have kL : (miK (seK K1 L1 8 (nI f)) (L1 + 1) j).1 L1 = 8 ∧ (miK (seK K1 L1 8 (nI f)) (L1 + 1) j).2.1 L1 = nI f := ⟨(miK_ag.1 L1 (by omega)).1.trans seK_o.1, (miK_ag.1 L1 (by omega)).2.trans seK_o.2⟩
  obtain ⟨l1, l2, l3⟩ := rf_lay (x := 8) (y := nI f) (hM.ag ag (Nat.le_refl _)) b2 (by omega) (by rw [kL.1]; rfl) kL.2.symm
  have oL : ∀ Q jx, ¬ sLa E.b Q jx → (s_X9_lay (nI E.b) 8 (nI f) τ1).1 Q jx = τ1.1 Q jx := l3.2
  have hE1 : EN E σ1 (s_X9_lay (nI E.b) 8 (nI f) τ1) := hE.fr rfr.rf (rfr.la l3)
  have hT1 : TKs E.tx E.nb s1 e1 kd1 v1 w1 σ1 (s_X9_lay (nI E.b) 8 (nI f) τ1) := hT.eq (fun _ _ _ => rfl) (fun jx _ _ => oL _ _ (fun z => by unfold sLa at z; omega))
  have hS1 : SKs (s_X9_lay (nI E.b) 8 (nI f) τ1) (wt + j + 1) W := hS.eq (oL _ _ (fun z => by unfold sLa at z; omega)) (fun i _ => oL _ _ (fun z => by unfold sLa at z; omega))
  obtain ⟨p1, p2, s4, e4, kd4, v4, w4, p3, p4, p5, p6, p7, p8, p9, p10⟩ := rf_close (N := N) (wt := wt) (j := j) (d := d) hE1 hT1 hS1 hW h0 l2 (by omega) (fun i i1 i2 => miK_m i1 i2) ((oL _ _ (fun z => by unfold sLa at z; omega)).trans h38) hN j9 d9
  obtain ⟨x1, x2⟩ := (rf_ec (N := N) (E := E) b2 hS h90 h91 (by omega) ar5 ar4 i4 h25 h39).2 hc l1 p2
  rw [x2]
  exact ⟨p1, x1, s4, e4, kd4, v4, w4, p3, p4, p5, p6, p7, p8, p9, (l3.wk (fun Q jx y => Or.inl y)).tr p10⟩
/-- at the head of a formula of a call -/
def AI (E : EV) (N : Nat) (K : aK) (H : Nat → Nat) (Lc h u s x f i D : Nat) (W : Nat → Nat) (σ τ : zS) (s1 e1 kd1 v1 w1 u1 : Nat) (K1 : aK) (H1 : Nat → Nat) (L1 jj : Nat) (σ1 τ1 : zS) : Prop := PS E s1 e1 kd1 v1 w1 u1 K1 L1 L1 (x + 1) W D 0 σ1 τ1 ∧ σ1.1 2 6 = -1 ∧ τ1.1 490 x = nI f ∧ τ1.1 491 x = nI i ∧ TS K H Lc K1 H1 L1 E.nf ∧ H1 L1 = h + i ∧ (u < u1 ∧ L1 ≤ Lc + 4 * (u1 - (u + 1))) ∧ (s < s1 ∧ jj ≤ 2 * (s1 - s)) ∧ Rn N E.b jj τ τ1 ∧ rfr (sRC E.q) σ σ1 ∧ rfr (sRM E.b) τ τ1 ∧ (∀ i, i < x → τ1.1 490 i = τ.1 490 i ∧ τ1.1 491 i = τ.1 491 i)
/-- behind a call: the reference has laid CALL and the minuses already -/
def CD (E : EV) (N : Nat) (K : aK) (H : Nat → Nat) (Lc h u s wt j d f : Nat) (W : Nat → Nat) (g : Int32 × zS) (σ τ : zS) : Prop := g.1 = 1 ∧ ∃ s1 e1 kd1 v1 w1 u1 K1 H1 L1 jj τ1, TKs E.tx E.nb s1 e1 kd1 v1 w1 g.2 τ1 ∧ EN E g.2 τ1 ∧ (g.2.1 E.q 8 = nI u1 ∧ τ1.1 478 E.b = nI u1 ∧ u1 ≤ 80) ∧ CKc g.2 E.q K1 L1 ∧ τ1.1 468 39 = 2 ∧ τ1.1 468 25 = 0 ∧ g.2.1 2 6 = -1 ∧ TS K H Lc K1 H1 L1 E.nf ∧ (H1 L1 = h + E.ar f ∧ h + E.ar f ≤ 28) ∧ (u < u1 ∧ L1 ≤ Lc + 4 * (u1 - (u + 1))) ∧ (s < s1 ∧ jj ≤ 2 * (s1 - s)) ∧ Rn N E.b jj τ τ1 ∧ rfr (sRC E.q) σ g.2 ∧ rfr (sRM E.b) τ τ1 ∧ (∀ i, i < wt → τ1.1 490 i = τ.1 490 i ∧ τ1.1 491 i = τ.1 491 i) ∧ MKc τ1 E.b (miK (seK K1 L1 8 (nI f)) (L1 + 1) j) (L1 + 1 + j) ∧ SKs τ1 wt W ∧ τ1.1 468 38 = nI d
theorem args_step {n s u Lc wt j d h f i z s1 e1 kd1 v1 w1 u1 L1 jj : Nat} {W : Nat → Nat} (hF : GL E N n 0 1 0 5) (hN : 200000 < N) (hW : ∀ i, wt ≤ i → i < wt + j → W i = 7) (hw0 : wt = 0 ∨ ¬ W (wt - 1) = 7) (hwx : W (wt + j) = 105) (fn : f < E.nf) (h28 : h ≤ 5 * (d + j) + 2) (d5 : d + j ≤ 5) (hwt : wt + j ≤ 8 * (d + j) + 6) (hLc : Lc ≤ 4 * u) (htk : ∀ f, f < E.nf → K.2.2.2 f = E.ar f) (hms : 7 * (6 - (d + j)) ≤ n + 1) (hi : i < E.ar f) (hg : AI E N K H Lc h u s (wt + j) f i (d + j + 1) W σ τ s1 e1 kd1 v1 w1 u1 K1 H1 L1 jj σ1 τ1) : (q_X3_readArguments (h_rd N n) (g_rd N n) N (z + 1 + 1) (nI (E.ar f)) (nI (d + j + 1)) (nI i) σ1 ∧ (BAD E N s (l_X3_readArguments (g_rd N n) N (z + 1 + 1) (nI (E.ar f)) (nI (d + j + 1)) (nI i) σ1) σ τ ∨ CD E N K H Lc h u s wt j d f W (l_X3_readArguments (g_rd N n) N (z + 1 + 1) (nI (E.ar f)) (nI (d + j + 1)) (nI i) σ1) σ τ)) ∨ (i + 1 < E.ar f ∧ ∃ σ2 s2 e2 kd2 v2 w2 u2 K2 H2 L2 jj2 τ2, AI E N K H Lc h u s (wt + j) f (i + 1) (d + j + 1) W σ τ s2 e2 kd2 v2 w2 u2 K2 H2 L2 jj2 σ2 τ2 ∧ (q_X3_readArguments (h_rd N n) (g_rd N n) N (z + 1) (nI (E.ar f)) (nI (d + j + 1)) (nI (i + 1)) σ2 → q_X3_readArguments (h_rd N n) (g_rd N n) N (z + 1 + 1) (nI (E.ar f)) (nI (d + j + 1)) (nI i) σ1) ∧ l_X3_readArguments (g_rd N n) N (z + 1 + 1) (nI (E.ar f)) (nI (d + j + 1)) (nI i) σ1 = l_X3_readArguments (g_rd N n) N (z + 1) (nI (E.ar f)) (nI (d + j + 1)) (nI (i + 1)) σ2) := by
  obtain ⟨hps, a1, a2, a3, a4, a5, ⟨a6, a7⟩, ⟨a8, a9⟩, b1, b2, b3, b4⟩ := hg
  have hps0 := hps
  obtain ⟨hE, hT, ⟨hu1, hu2, u80⟩, hC, hM, hS, h38, h39, h25⟩ := hps
  have n10 : ¬ (1 : Int32) = 0 := by decide
  have hn := hE.2.1.2.1
  have bb := hE.2.2.2.2.1.2.2
  have q3 := hE.2.2.2.2.1.2.1
  have nf6 := hE.2.2.1.1
  obtain ⟨ar4, -, ar5⟩ := hE.2.2.2.2.2.2.2 f fn
  have h33 : σ1.1 3 3 = nI s1 := hT.2.2.2.2.2.2.1
  have s1l : s1 ≤ 1000 := by have := hT.1; have := hT.2.1; omega
  have hkd := hT.kd
  obtain ⟨cg1, cg2⟩ := ca_go (z := z + 1) (N := N) (σ := σ1) (P := h_rd N n) (G := g_rd N n) (x2 := nI (d + j + 1)) (a := E.ar f) (i := i) ar4 hi
  by_cases ck : kd1 = 41
  · left
    have k0 : σ1.1 3 2 = 41 := by rw [hT.2.2.2.2.2.1, ck]; rfl
    obtain ⟨x1, x2⟩ := cg1 k0
    obtain ⟨y1, y2⟩ := (rf_ec (N := N) (E := E) (sg := 0) bb hS a2 a3 (by omega) ar5 ar4 (by omega) h25 h39).1 (Or.inr ⟨rfl, by omega⟩)
    have rn := rf_rp (N := N) hE hT h25 h39 hS hwx ck y1
    obtain ⟨f1, f2⟩ := ft_of (E := E) (σ := σ1) (c := 5) (x := 5) (y := σ1.1 3 3) (by decide) (by decide) s1l rfl h33 y2 hT.2.2.2.2.2.2.2.2.2.1
    refine ⟨x1, Or.inl ?_⟩
    rw [x2]
    exact ⟨rfl, jj + 1, _, by omega, b1.tr rn, ⟨f1, ft_L hM y2 (by omega)⟩, rc_ref b2, b3.nn.tr f2⟩
  · have k0 : ¬ σ1.1 3 2 = 41 := by
      rw [hT.2.2.2.2.2.1]
      exact fun y => ck ((nI_eq (b := 41) (by omega) (by decide)).mp y)
    obtain ⟨tm2, tm1⟩ := tm_s5 (E := E) (sg := 0) bb hS hwx h39 a2 (by omega) ar5 ar4 rfl
    have bt0 : bndT (wt + j + 1) W = 0 := by
      unfold bndT
      rw [if_neg (by omega), show wt + j + 1 - 1 = wt + j by omega, hwx]
      rfl
    obtain ⟨g1, g2⟩ := hF s1 e1 kd1 v1 w1 u1 K1 H1 L1 (wt + j + 1) (d + j + 1) 0 (h + i) W σ1 τ1 hps0 (Or.inr (by rw [show wt + j + 1 - 1 = wt + j by omega, hwx]; decide)) (by omega) (by omega) (fun _ => rfl) (Or.inl ⟨tm1.mpr (by omega), a1⟩) tm2 (fun _ => ⟨Or.inl rfl, fun _ => ck⟩) a5 (by omega) (by omega) (by omega) (by omega) (fun f hf => by rw [a4.1.2]; exact htk f hf) (by omega)
    obtain ⟨ch1, ch2⟩ := cg2 k0 g1
    generalize hgG : g_rd N n 0 (nI (d + j + 1)) 0 σ1 = gG at *
    rcases g2 with ⟨g0, jj2, τ4, x1, x2, x3, x4, x5⟩ | ⟨-, gg, s3, e3, kd3, v3, w3, u3, K3, H3, Lc3, jj2, τ4, x1, x2, ⟨x31, x32, x33⟩, x4, x5, x6, x7, x8, ⟨x91, x92⟩, ⟨y1, y2⟩, ⟨y3, y4⟩, y5, y6, y7, y8, z1⟩
    · left
      obtain ⟨w1', w2'⟩ := ch1 g0
      refine ⟨w1', Or.inl ?_⟩
      rw [w2']
      exact ⟨rfl, jj + jj2, τ4, by omega, b1.tr x2, x3, b2.dd.tr x4, b3.nn.tr x5⟩
    · obtain ⟨cl1, cl2⟩ := ch2 (by rw [gg]; exact n10)
      obtain ⟨τ5, v1', v2', v3', v4', v5'⟩ := rf_end x1 x2 x6 x5 bt0 (by omega) z1 hN
      have o5 : ∀ Q jx, ¬ (sLa E.b Q jx ∨ (Q = 468 ∧ jx = 37)) → τ5.1 Q jx = τ4.1 Q jx := v3'.2
      have hE5 : EN E gG.2 τ5 := x2.fr rfr.rf v3'.l37
      have hT5 : TKs E.tx E.nb s3 e3 kd3 v3 w3 gG.2 τ5 := x1.eq (fun _ _ _ => rfl) (fun jx _ _ => o5 _ _ (fun z => by unfold sLa at z; omega))
      have h255 : τ5.1 468 25 = 0 := (o5 _ _ (fun z => by unfold sLa at z; omega)).trans x6
      have h395 : τ5.1 468 39 = 2 := (o5 _ _ (fun z => by unfold sLa at z; omega)).trans x5
      have h905 : τ5.1 490 (wt + j) = nI f := by rw [o5 _ _ (fun z => by unfold sLa at z; omega), (y8 (wt + j) (by omega)).1]; exact a2
      have h915 : τ5.1 491 (wt + j) = nI i := by rw [o5 _ _ (fun z => by unfold sLa at z; omega), (y8 (wt + j) (by omega)).2]; exact a3
      obtain ⟨-, -, ar6⟩ := hE5.2.2.2.2.2.2.2 f fn
      have s3l : s3 ≤ 1000 := by have := x1.1; have := x1.2.1; omega
      have hkd3 := x1.kd
      have s33 : gG.2.1 3 3 = nI s3 := x1.2.2.2.2.2.2.1
      have s32 : gG.2.1 3 2 = nI kd3 := x1.2.2.2.2.2.1
      have h21 := hT5.2.2.2.2.2.2.2.2.2.1
      have kp : ∀ i, i < wt + j → τ5.1 490 i = τ.1 490 i ∧ τ5.1 491 i = τ.1 491 i := fun i hi => ⟨by rw [o5 _ _ (fun z => by unfold sLa at z; omega), (y8 i (by omega)).1, (b4 i hi).1], by rw [o5 _ _ (fun z => by unfold sLa at z; omega), (y8 i (by omega)).2, (b4 i hi).2]⟩
      have fC : rfr (sRC E.q) σ gG.2 := b2.tr y6
      have fM : rfr (sRM E.b) τ τ5 := (b3.tr y7).tr v3'.l37
      have RN : Rn N E.b (jj + jj2) τ τ4 := b1.tr y5
      have GI := fun (_ : Unit) => rf_gic (N := N) hE5 hT5 h255 h395 v1' hwx h905 h915 (by omega) ar6 ar4 hi hN
      have badf : ∀ (c : Nat) (g : Int32 × zS) (τf : zS), 1 ≤ c → c ≤ 5 → p_X9_endSum (nI E.b) N τ5 → s_X9_endSum (nI E.b) N τ5 = τf → (∃ τg, rfr (sRM E.b) τ5 τg ∧ τg.1 468 21 = nI s3 ∧ MKc τg E.b K3 Lc3 ∧ FLm c τg τf) → g = (0, zuI (zuI gG.2 2 2 (nI c)) 2 3 (gG.2.1 3 3)) → BAD E N s g σ τ := fun c g τf c1 c5 pe se ⟨τg, fg, hg21, hgM, fl⟩ eg => by
        obtain ⟨f1, f2⟩ := ft_of (E := E) (σ := gG.2) (c := c) (x := nI c) (y := gG.2.1 3 3) c1 c5 s3l rfl s33 fl hg21
        have rn := v5' pe
        rw [se] at rn
        rw [eg]
        exact ⟨rfl, jj + jj2 + 1, _, by omega, RN.tr rn, ⟨f1, ft_L hgM fl (by omega)⟩, rc_ref fC, (fM.tr fg).nn.tr f2⟩
      by_cases ci : i + 1 = E.ar f
      · left
        obtain ⟨k44, kno⟩ := cl1 ci
        by_cases c44 : kd3 = 44
        · obtain ⟨w1', w2'⟩ := k44 (by rw [s32, c44]; rfl)
          obtain ⟨pe, fl⟩ := (GI ()).2.2.1 c44 ci
          refine ⟨w1', Or.inl (badf 5 _ _ (by decide) (by decide) pe rfl ⟨_, rfr.rf.uI (by unfold sRM; omega), (gI_n (by omega)).trans h21, v2'.eq (fun Q jx y => gI_n (by omega)), fl⟩ w2')⟩
        · obtain ⟨w1', w2'⟩ := kno (by
            rw [s32]
            exact fun y => c44 ((nI_eq (b := 44) (by omega) (by decide)).mp y))
          obtain ⟨sg1, sg2⟩ := cl_sign (N := N) (c := 41) s32 (by omega) (by decide)
          rw [ci] at w1' w2'
          by_cases c41 : kd3 = 41
          · obtain ⟨p1, p2, s4, e4, kd4, v4, w4, p3, p4, p5, p6, p7, p8, p9, p10⟩ := rf_cend (N := N) (sg := 2) hE5 hT5 h255 h395 v1' hW hw0 v2' (by omega) v4' h905 h915 fn (by omega) (Or.inl ⟨rfl, ci⟩) hN (by omega) (by omega)
            obtain ⟨gp, ge⟩ := (GI ()).1 c41
            have rn := v5' (gp p2)
            rw [ge] at rn
            obtain ⟨e1', e2'⟩ := ca_end (z := z) (N := N) (σ := gG.2) (P := h_rd N n) (G := g_rd N n) (x2 := nI (d + j + 1)) ar4 (fun _ => p1)
            have sg1 : r_X3_readSign 41 N gG.2 = (1, s_X6_next N gG.2) := sg1 c41
            refine ⟨w1' e1', Or.inr ?_⟩
            rw [w2', e2', sg1]
            have cN : ∀ Q jx, ¬ Q = 3 → (s_X6_next N gG.2).1 Q jx = gG.2.1 Q jx := fun Q jx y => p4.2 _ _ (fun z => y z.1)
            have o6 : ∀ Q jx, ¬ (sLa E.b Q jx ∨ (Q = 468 ∧ ((20 ≤ jx ∧ jx ≤ 24) ∨ (37 ≤ jx ∧ jx ≤ 39)))) → (s_X9_endCall (nI E.b) N τ5).1 Q jx = τ5.1 Q jx := p10.2
            have e34 := x1.2.2.2.1 (by omega)
            refine ⟨rfl, s4, e4, kd4, v4, w4, u3, K3, H3, Lc3, jj + jj2 + 1, _, p3, hE5.fr (rfr.tc p4) p10.cls, ⟨(cN _ _ (by omega)).trans x31, ?_, x33⟩, x4.eq (fun Q jx y => cN _ _ (by omega)), p9, ?_, (cN _ _ (by omega)).trans x7, a4.tr x8, ⟨by omega, by omega⟩, ⟨by omega, by omega⟩, ⟨by omega, by omega⟩, RN.tr rn, fC.tr (rfr.tc p4), fM.tr p10.cls, fun i hi => ⟨?_, ?_⟩, p7, p6, p8⟩
            · rw [o6 _ _ (fun z => by unfold sLa at z; omega), o5 _ _ (fun z => by unfold sLa at z; omega)]; exact x32
            · rw [o6 _ _ (fun z => by unfold sLa at z; omega)]; exact h255
            · rw [o6 _ _ (fun z => by unfold sLa at z; omega), (kp i (by omega)).1]
            · rw [o6 _ _ (fun z => by unfold sLa at z; omega), (kp i (by omega)).2]
          · obtain ⟨sp, sr⟩ := sg2 c41
            obtain ⟨pe, fl⟩ := (GI ()).2.1 c41 c44
            obtain ⟨e1', e2'⟩ := ca_end (z := z) (N := N) (σ := gG.2) (P := h_rd N n) (G := g_rd N n) (x2 := nI (d + j + 1)) ar4 sp
            exact ⟨w1' e1', Or.inl (badf 1 _ _ (by decide) (by decide) pe rfl ⟨_, rfr.rf, h21, v2', fl⟩ (by rw [w2', e2']; exact sr))⟩
      · obtain ⟨k41, kno⟩ := cl2 (by omega)
        by_cases c41 : kd3 = 41
        · left
          obtain ⟨w1', w2'⟩ := k41 (by rw [s32, c41]; rfl)
          obtain ⟨gp, ge⟩ := (GI ()).1 c41
          obtain ⟨y1', y2'⟩ := (rf_ec (N := N) (E := E) (sg := 2) bb v1' h905 h915 (by omega) ar6 ar4 (by omega) h255 h395).1 (Or.inl ⟨rfl, ci⟩)
          exact ⟨w1', Or.inl (badf 5 _ _ (by decide) (by decide) (gp y1') ge ⟨_, rfr.rf, h21, v2', y2'⟩ w2')⟩
        · have n41 : ¬ gG.2.1 3 2 = 41 := by
            rw [s32]
            exact fun y => c41 ((nI_eq (b := 41) (by omega) (by decide)).mp y)
          obtain ⟨sg1, sg2⟩ := cl_sign (N := N) (c := 44) s32 (by omega) (by decide)
          by_cases c44 : kd3 = 44
          · right
            obtain ⟨p1, p2, p3, s4, e4, kd4, v4, w4, p4, p5, p6, p8, p9, p10⟩ := (GI ()).2.2.2 c44 (by omega)
            have rn := v5' p3
            have sg1 : r_X3_readSign 44 N gG.2 = (1, s_X6_next N gG.2) := sg1 c44
            obtain ⟨-, w2'⟩ := kno n41 (fun _ => p1)
            rw [sg1] at w2'
            obtain ⟨w3, w4'⟩ := w2' n10
            have cN : ∀ Q jx, ¬ Q = 3 → (s_X6_next N gG.2).1 Q jx = gG.2.1 Q jx := fun Q jx y => p2.2 _ _ (fun z => y z.1)
            have e34 := x1.2.2.2.1 (by omega)
            refine ⟨by omega, s_X6_next N gG.2, s4, e4, kd4, v4, w4, u3, K3, H3, Lc3, jj + jj2 + 1, _, ⟨⟨hE5.fr (rfr.tc p2) p5, p4, ⟨(cN _ _ (by omega)).trans x31, ?_, x33⟩, x4.eq (fun Q jx y => cN _ _ (by omega)), v2'.eq (fun Q jx y => p10 _ _ (by omega) (by omega)), v1'.eq (p10 _ _ (by omega) (by omega)) (fun i _ => p10 _ _ (by omega) (by omega)), ?_, p8, ?_⟩, (cN _ _ (by omega)).trans x7, ?_, p9, a4.tr x8, by omega, ⟨by omega, by omega⟩, ⟨by omega, by omega⟩, RN.tr rn, fC.tr (rfr.tc p2), fM.tr p5, fun i hi => ⟨?_, ?_⟩⟩, w3, w4'⟩
            · rw [p10 _ _ (by omega) (by omega), o5 _ _ (fun z => by unfold sLa at z; omega)]; exact x32
            · rw [p10 _ _ (by omega) (by omega)]; exact v4'
            · rw [p10 _ _ (by omega) (by omega)]; exact h255
            · rw [p10 _ _ (by omega) (by omega)]; exact h905
            · rw [p10 _ _ (by omega) (by omega), (kp i hi).1]
            · rw [p10 _ _ (by omega) (by omega), (kp i hi).2]
          · left
            obtain ⟨sp, sr⟩ := sg2 c44
            have sr : r_X3_readSign 44 N gG.2 = _ := sr
            obtain ⟨w1', -⟩ := kno n41 sp
            obtain ⟨w3, w4'⟩ := w1' (by rw [sr])
            obtain ⟨pe, fl⟩ := (GI ()).2.1 c41 c44
            exact ⟨w3, Or.inl (badf 1 _ _ (by decide) (by decide) pe rfl ⟨_, rfr.rf, h21, v2', fl⟩ (by rw [w4', sr]; rfl))⟩
theorem args_loop {n s u Lc wt j d h f : Nat} {W : Nat → Nat} (hF : GL E N n 0 1 0 5) (hN : 200000 < N) (hW : ∀ i, wt ≤ i → i < wt + j → W i = 7) (hw0 : wt = 0 ∨ ¬ W (wt - 1) = 7) (hwx : W (wt + j) = 105) (fn : f < E.nf) (h28 : h ≤ 5 * (d + j) + 2) (d5 : d + j ≤ 5) (hwt : wt + j ≤ 8 * (d + j) + 6) (hLc : Lc ≤ 4 * u) (htk : ∀ f, f < E.nf → K.2.2.2 f = E.ar f) (hms : 7 * (6 - (d + j)) ≤ n + 1) : ∀ (m i s1 e1 kd1 v1 w1 u1 : Nat) (K1 : aK) (H1 : Nat → Nat) (L1 jj : Nat) (σ1 τ1 : zS), i + (m + 1) = E.ar f → AI E N K H Lc h u s (wt + j) f i (d + j + 1) W σ τ s1 e1 kd1 v1 w1 u1 K1 H1 L1 jj σ1 τ1 → ∀ z, q_X3_readArguments (h_rd N n) (g_rd N n) N (z + m + 1 + 1) (nI (E.ar f)) (nI (d + j + 1)) (nI i) σ1 ∧ (BAD E N s (l_X3_readArguments (g_rd N n) N (z + m + 1 + 1) (nI (E.ar f)) (nI (d + j + 1)) (nI i) σ1) σ τ ∨ CD E N K H Lc h u s wt j d f W (l_X3_readArguments (g_rd N n) N (z + m + 1 + 1) (nI (E.ar f)) (nI (d + j + 1)) (nI i) σ1) σ τ) := by
  intro m
  induction m with
  | zero =>
    intro i s1 e1 kd1 v1 w1 u1 K1 H1 L1 jj σ1 τ1 hi hg z
    rcases args_step (z := z) hF hN hW hw0 hwx fn h28 d5 hwt hLc htk hms (by omega) hg with y | ⟨y, -⟩
    · exact y
    · omega
  | succ m ih =>
    intro i s1 e1 kd1 v1 w1 u1 K1 H1 L1 jj σ1 τ1 hi hg z
    rcases args_step (z := z + (m + 1)) hF hN hW hw0 hwx fn h28 d5 hwt hLc htk hms (by omega) hg with y | ⟨-, σ2, s2, e2, kd2, v2, w2, u2, K2, H2, L2, jj2, τ2, h1, h2, h3⟩
    · exact y
    · obtain ⟨x1, x2⟩ := ih (i + 1) s2 e2 kd2 v2 w2 u2 K2 H2 L2 jj2 σ2 τ2 (by omega) h1 z
      rw [h3]
      exact ⟨h2 x1, x2⟩
end IS
