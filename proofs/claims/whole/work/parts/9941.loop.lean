/-! the loop of a chain: both sides -/
section IS
variable {N : Nat} {E : EV} {σ σ1 σ2 τ τ1 τ2 : zS} {K K1 K2 : aK} {H H1 : Nat → Nat}
theorem tm_s1 {x : Int32} (h : τ.1 468 39 = 1) : f_X9_isTooMany x τ = 0 ∧ p_X9_isTooMany x τ := by
  have n : ¬ τ.1 468 39 = 0 := by rw [h]; decide
  refine ⟨?_, fun y => absurd y n⟩
  unfold f_X9_isTooMany
  rw [if_neg n]
theorem bndT_eq {wt : Nat} {W W1 : Nat → Nat} (h : ∀ i, i < wt → W1 i = W i) : bndT wt W1 = bndT wt W := by
  unfold bndT
  by_cases c : wt = 0
  · rw [if_pos c, if_pos c]
  · rw [if_neg c, if_neg c, h _ (by omega)]
/-- frames of the pieces -/
theorem rfr.l37 {b : Nat} (h : rfr (fun Q j => sLa b Q j ∨ (Q = 468 ∧ j = 37)) τ τ1) : rfr (sRM b) τ τ1 := h.wk (fun Q jx y => by
  rcases y with y | y
  · exact Or.inr (Or.inr (Or.inl y))
  · exact Or.inl ⟨y.1, Or.inr ⟨by omega, by omega⟩⟩)
/-- an operator: the reference lays what binds as tightly, and lets the operator wait -/
theorem rf_op {s1 e1 kd1 v1 w1 wt m Lc1 : Nat} {W1 : Nat → Nat} (hT : TKs E.tx E.nb s1 e1 kd1 v1 w1 σ1 τ1) (hE : EN E σ1 τ1) (h25 : τ1.1 468 25 = 0) (h39 : τ1.1 468 39 = 2) (ho : 1 ≤ bnd (opK kd1)) (h0 : bndT wt W1 < bnd (opK kd1)) (hw : wt < 90) (m3 : m ≤ 3) (mL : m ≤ Lc1) (hL : Lc1 ≤ 400) (hM : MKc τ1 E.b K1 (Lc1 - m)) (hS : SKs τ1 (wt + m) W1) (hb : ∀ i, wt ≤ i → i < wt + m → bnd (opK kd1) ≤ bnd (W1 i)) (hK : ∀ i, i < m → K1.1 (Lc1 - m + i) = W1 (wt + m - 1 - i) ∧ K1.2.1 (Lc1 - m + i) = 0) (hN : 200000 < N) : ∃ s2 e2 kd2 v2 w2 τ3, p_X6_next N σ1 ∧ Rn N E.b 1 τ1 τ3 ∧ TKs E.tx E.nb s2 e2 kd2 v2 w2 (s_X6_next N σ1) τ3 ∧ rfr sTC σ1 (s_X6_next N σ1) ∧ rfr (sRM E.b) τ1 τ3 ∧ MKc τ3 E.b K1 Lc1 ∧ SKs τ3 (wt + 1) (fun i => if i = wt then opK kd1 else W1 i) ∧ τ3.1 468 38 = τ1.1 468 38 ∧ τ3.1 468 39 = 1 ∧ τ3.1 468 25 = 0 ∧ τ3.1 478 E.b = τ1.1 478 E.b ∧ (∀ i, i < wt → τ3.1 490 i = τ1.1 490 i ∧ τ3.1 491 i = τ1.1 491 i) ∧ e1 ≤ s2 := by
  have b2 := hE.2.2.2.2.1.2.2
  obtain ⟨o2, o6, -⟩ := op_b rfl ho
  obtain ⟨z, hz⟩ : ∃ z, N = z + m + 1 := ⟨N - m - 1, by omega⟩
  obtain ⟨τ2, g1, g2, g3, g4, g5⟩ := rb_op (N := N) (K := K1) b2 (wt := wt) (o := opK kd1) (W := W1) (by omega) (Or.inr h0) hw m (Lc1 - m) τ1 hS hb hM (by omega) hK z
  rw [← hz] at g1 g2
  obtain ⟨p1, p2, p3⟩ := rf_push (x := 0) (y := 0) (o := opK kd1) g3 (by omega) (by omega)
  have oP : ∀ Q j, ¬ ((489 ≤ Q ∧ Q ≤ 491 ∧ j = wt) ∨ (Q = 468 ∧ j = 37)) → (s_X9_push (nI (opK kd1)) 0 0 τ2).1 Q j = τ2.1 Q j := fun Q j y => by rw [p2, gI_n (by omega), gI_n (by omega), gI_n (by omega), gI_n (by omega)]
  have oB : ∀ Q j, ¬ (sLa E.b Q j ∨ (Q = 468 ∧ j = 37)) → τ2.1 Q j = τ1.1 Q j := g5.2
  have hTM : TM E.nb E.tx (s_X9_push (nI (opK kd1)) 0 0 τ2) := hE.2.1.eq (fun Q j y => by rw [oP _ _ (by omega), oB _ _ (fun z => by unfold sLa at z; omega)])
  obtain ⟨n1, n2, -, s2, e2, kd2, v2, w2, t1, t2, t3, t4, -⟩ := pr_next (N := N) (p := e1) hE.1 hTM hT.2.2.2.2.2.2.2.1 (by rw [oP _ _ (by omega), oB _ _ (fun z => by unfold sLa at z; omega)]; exact hT.2.2.2.2.2.2.2.2.2.2.1) hT.2.1 (by omega)
  obtain ⟨f1, f2⟩ := rf_between hT hE.2.1 h25
  rw [if_neg (by omega)] at f2
  have nm1 : ¬ nI (opK kd1) = -1 := fun y => nI_pos (n := opK kd1) (by omega) (by rw [y]; decide)
  have eg : s_X9_goBehind (nI E.b) N τ1 = zuI (s_X9_scan N (s_X9_push (nI (opK kd1)) 0 0 τ2)) 468 39 1 := by
    unfold s_X9_goBehind
    rw [f2, if_neg nm1, g1]
  have pg : p_X9_goBehind (nI E.b) N τ1 := by
    unfold p_X9_goBehind
    rw [f2]
    exact ⟨f1, fun y => absurd y nm1, fun _ => g2 n2⟩
  have rn := rn_behind (N := N) (b := E.b) h25 h39 pg
  rw [eg] at rn
  have oS : ∀ Q j, ¬ (Q = 468 ∧ 20 ≤ j ∧ j ≤ 24) → (s_X9_scan N (s_X9_push (nI (opK kd1)) 0 0 τ2)).1 Q j = (s_X9_push (nI (opK kd1)) 0 0 τ2).1 Q j := t3.2
  refine ⟨s2, e2, kd2, v2, w2, _, n1, rn, t1.eq (fun _ _ _ => rfl) (fun j y1 y2 => gI_n (by omega)), t2, ?_, ?_, ?_, ?_, gI_h rfl rfl, ?_, ?_, fun i hi => ⟨?_, ?_⟩, t4⟩
  · have a1 : rfr (sRM E.b) τ2 (s_X9_push (nI (opK kd1)) 0 0 τ2) := ⟨by rw [p2]; rfl, fun Q j y => oP Q j (fun z => y (by unfold sRM; omega))⟩
    exact ((g5.l37.tr a1).tr (rfr.tm t3)).uI (Or.inl ⟨rfl, Or.inr ⟨by omega, by omega⟩⟩)
  · have a1 : MKc τ2 E.b K1 Lc1 := by
      rw [show Lc1 - m + m = Lc1 by omega] at g4
      exact g4
    exact a1.eq (fun Q j y => by rw [gI_n (by omega), oS _ _ (by omega), oP _ _ (by omega)])
  · exact p3.eq (by rw [gI_n (by omega), oS _ _ (by omega)]) (fun i _ => by rw [gI_n (by omega), oS _ _ (by omega)])
  · rw [gI_n (by omega), oS _ _ (by omega), oP _ _ (by omega), oB _ _ (fun z => by unfold sLa at z; omega)]
  · rw [gI_n (by omega), oS _ _ (by omega), oP _ _ (by omega), oB _ _ (fun z => by unfold sLa at z; omega)]; exact h25
  · rw [gI_n (by omega), oS _ _ (by omega), oP _ _ (by omega), oB _ _ (fun z => by unfold sLa at z; omega)]
  · rw [gI_n (by omega), oS _ _ (by omega), oP _ _ (by omega), oB _ _ (fun z => by unfold sLa at z; omega)]
  · rw [gI_n (by omega), oS _ _ (by omega), oP _ _ (by omega), oB _ _ (fun z => by unfold sLa at z; omega)]
/-- what a chain has read, and what comes of the next piece -/
theorem chain_loop {n c lo hb kk u s Lc wt d h : Nat} {W : Nat → Nat} {L : Nat → Int32 → zS → Int32 × zS} {Q : Nat → Int32 → zS → Prop} (hN : 200000 < N) (hlo : 1 ≤ lo) (hlo2 : lo ≤ 2) (hb2 : hb ≤ 2) (hc : ¬ c = 0) (hsub : GL E N n c (lo + 1) (hb + 1) kk) (hch : CH E N n c lo d L Q) (hB : bndT wt W < lo) (hLc : Lc ≤ 4 * u) (d6 : d ≤ 6) (hwt : wt ≤ 8 * d + 2 * hb + 2) (h5 : h ≤ 5 * d + hb) (htk : ∀ f, f < E.nf → K.2.2.2 f = E.ar f) (hms : 7 * (6 - d) + kk < n) : ∀ (k s1 e1 kd1 v1 w1 u1 : Nat) (K1 : aK) (H1 : Nat → Nat) (Lc1 jj i : Nat) (σ1 τ1 : zS), E.nb < s1 + k → i ≤ s1 → GD E N K H Lc h u s wt σ τ (QT E wt d lo (lo + 1) W) s1 e1 kd1 v1 w1 u1 K1 H1 Lc1 jj σ1 τ1 → ∀ kf, k ≤ kf → Q (kf + 1) (nI i) σ1 ∧ (BAD E N s (L (kf + 1) (nI i) σ1) σ τ ∨ GOOD E N K H Lc h u s wt (L (kf + 1) (nI i) σ1) σ τ (QT E wt d lo lo W)) := by
  intro k
  induction k with
  | zero =>
    intro s1 e1 kd1 v1 w1 u1 K1 H1 Lc1 jj i σ1 τ1 hs hi hg
    have := hg.1.1
    have := hg.1.2.1
    omega
  | succ k ih =>
    intro s1 e1 kd1 v1 w1 u1 K1 H1 Lc1 jj i σ1 τ1 hs hi hg kf hkf
    obtain ⟨a1, a2, ⟨a31, a32, a33⟩, a4, a5, a6, a7, a8, ⟨a91, a92⟩, ⟨b1, b2⟩, ⟨b3, b4⟩, b5, b6, b7, b8, m, W1, m1, m2, m3, m4, m5, m6, m7, m8, m9⟩ := hg
    have hse := a1.1
    have hen := a1.2.1
    have hn := a2.2.1.2.1
    have hkd := a1.kd
    obtain ⟨ch1, ch2⟩ := hch kf i kd1 σ1 (by omega) a1.2.2.2.2.2.1 (by omega)
    by_cases c0 : bnd (opK kd1) = lo
    · obtain ⟨o2, o6, o3⟩ := op_b c0 hlo
      have hlt := a1.2.2.2.1 o3
      obtain ⟨s2, e2, kd2, v2, w2, τ3, r1, r2, r3, r4, r5, r6, r7, r8, r9, r10, r11, r12, r13⟩ := rf_op (wt := wt) (m := m) (Lc1 := Lc1) (W1 := W1) a1 a2 a6 a5 (by omega) (by rw [bndT_eq m5]; omega) (by omega) (by omega) m2 (by omega) m3 m4 (by rw [c0]; exact m6) m8 hN
      have q3 := a2.2.2.2.2.1.2.1
      have hE3 : EN E (s_X6_next N σ1) τ3 := a2.fr (rfr.tc r4) r5
      have cN : ∀ Q j, ¬ Q = 3 → (s_X6_next N σ1).1 Q j = σ1.1 Q j := fun Q j y => r4.2 _ _ (fun z => y z.1)
      obtain ⟨tm1, tm2⟩ := tm_s1 (x := nI E.b) r9
      have hps : PS E s2 e2 kd2 v2 w2 u1 K1 Lc1 Lc1 (wt + 1) (fun i => if i = wt then opK kd1 else W1 i) d 1 (s_X6_next N σ1) τ3 := ⟨hE3, r3, ⟨(cN _ _ (by omega)).trans a31, r11.trans a32, a33⟩, a4.eq (fun Q j y => cN _ _ (by omega)), r6, r7, r8.trans m7, r9, r10⟩
      have hbt : bndT (wt + 1) (fun i => if i = wt then opK kd1 else W1 i) < lo + 1 := by
        unfold bndT
        rw [if_neg (by omega)]
        show bnd (if wt + 1 - 1 = wt then opK kd1 else W1 (wt + 1 - 1)) < lo + 1
        rw [if_pos (by omega)]
        omega
      obtain ⟨u1', u2'⟩ := hsub s2 e2 kd2 v2 w2 u1 K1 H1 Lc1 (wt + 1) d 1 (h + 1) (fun i => if i = wt then opK kd1 else W1 i) (s_X6_next N σ1) τ3 hps (Or.inr (by
        show ¬ (if wt + 1 - 1 = wt then opK kd1 else W1 (wt + 1 - 1)) = 7
        rw [if_pos (by omega)]
        omega)) hbt (by omega) (fun y => absurd y hc) (Or.inl ⟨tm1, (cN _ _ (by omega)).trans a7⟩) tm2 (fun y => absurd y (by decide)) a91 (by omega) d6 (by omega) (by omega) (fun f hf => by rw [a8.1.2]; exact htk f hf) hms
      obtain ⟨c1, c2⟩ := ch2 c0 (by omega) r1 u1'
      have fC : rfr (sRC E.q) σ (s_X6_next N σ1) := b6.tr (rfr.tc r4)
      have fM : rfr (sRM E.b) τ τ3 := b7.tr r5
      rcases u2' with ⟨g0, jj2, τ4, x1, x2, x3, x4, x5⟩ | ⟨-, g1, s3, e3, kd3, v3, w3, u3, K3, H3, Lc3, jj2, τ4, x1, x2, ⟨x31, x32, x33⟩, x4, x5, x6, x7, x8, ⟨x91, x92⟩, ⟨y1, y2⟩, ⟨y3, y4⟩, y5, y6, y7, y8, m', W3, z1, z2, z3, z4, z5, z6, z7, z8, z9⟩
      · obtain ⟨d1, d2⟩ := c1 g0
        refine ⟨d1, Or.inl ?_⟩
        rw [d2]
        exact ⟨rfl, jj + 1 + jj2, τ4, by omega, (b5.tr r2).tr x2, x3, fC.dd.tr x4, fM.nn.tr x5⟩
      · -- the operator's word
        have hC3 : CKc (g_rd N n c (nI d) 0 (s_X6_next N σ1)).2 E.q (seK K3 Lc3 (opK kd1) 0) Lc3 := x4.ag seK_ag
        obtain ⟨e1', e2', e3', e4'⟩ := cl_emit (x := nI (cmap (opK kd1))) (y := 0) hC3 (by omega) (by rw [seK_o.1]) seK_o.2.symm
        obtain ⟨d1, d2⟩ := c2 g1 x2.2.2.2.2.1.1 e1'
        generalize hσ5 : (r_X2_emit E.q (nI (cmap (opK kd1))) 0 (g_rd N n c (nI d) 0 (s_X6_next N σ1)).2).2 = σ5 at *
        have cE : ∀ Q jx, ¬ sEm E.q Q jx → σ5.1 Q jx = (g_rd N n c (nI d) 0 (s_X6_next N σ1)).2.1 Q jx := e4'.2
        have gnew : GD E N K H Lc h u s wt σ τ (QT E wt d lo (lo + 1) W) s3 e3 kd3 v3 w3 u3 (seK K3 Lc3 (opK kd1) 0) (seH H3 (Lc3 + 1) (h + 1)) (Lc3 + 1) (jj + 1 + jj2) σ5 τ4 := by
          have W3w : W3 wt = opK kd1 := by rw [z5 wt (by omega)]; exact if_pos rfl
          refine ⟨x1.eq (fun j y1 y2 => cE _ _ (fun z => by unfold sEm at z; omega)) (fun _ _ _ => rfl), x2.fr (rfr.em e4') rfr.rf, ⟨(cE _ _ (fun z => by unfold sEm at z; omega)).trans x31, x32, x33⟩, e3', x5, x6, (cE _ _ (fun z => by unfold sEm at z; omega)).trans x7, (a8.tr x8).tr (ts_two x91 (by omega) ⟨o2, o6⟩), ⟨seH_o, a92⟩, ⟨by omega, by omega⟩, ⟨by omega, by omega⟩, (b5.tr r2).tr y5, (fC.tr y6).tr (rfr.em e4'), fM.tr y7, fun i hi => ⟨?_, ?_⟩, m' + 1, W3, by omega, by omega, ?_, ?_, fun i hi => ?_, fun i i1 i2 => ?_, z7, fun i hi => ?_, z9⟩
          · rw [(y8 i (by omega)).1, (r12 i hi).1, (b8 i hi).1]
          · rw [(y8 i (by omega)).2, (r12 i hi).2, (b8 i hi).2]
          · rw [show Lc3 + 1 - (m' + 1) = Lc3 - m' by omega]
            exact z3.ag seK_ag (by omega)
          · rw [show wt + (m' + 1) = wt + 1 + m' by omega]
            exact z4
          · rw [z5 i (by omega)]
            show (if i = wt then opK kd1 else W1 i) = W i
            rw [if_neg (by omega)]
            exact m5 i hi
          · by_cases ci : i = wt
            · rw [ci, W3w]; omega
            · have := z6 i (by omega) (by omega)
              omega
          · by_cases ci : i = m'
            · subst ci
              rw [show Lc3 + 1 - (i + 1) + i = Lc3 by omega, show wt + (i + 1) - 1 - i = wt by omega, W3w]
              exact seK_o
            · obtain ⟨k1, k2⟩ := z8 i (by omega)
              rw [show Lc3 + 1 - (m' + 1) + i = Lc3 - m' + i by omega, show wt + (m' + 1) - 1 - i = wt + 1 + m' - 1 - i by omega]
              have ka := (seK_ag (K := K3) (L := Lc3) (o := opK kd1) (x := 0)).1 (Lc3 - m' + i) (by omega)
              exact ⟨ka.1.trans k1, ka.2.trans k2⟩
        obtain ⟨kf', rfl⟩ : ∃ z, kf = z + 1 := ⟨kf - 1, by omega⟩
        obtain ⟨v1', v2'⟩ := ih s3 e3 kd3 v3 w3 u3 _ _ _ _ (i + 1) σ5 τ4 (by omega) (by omega) gnew kf' (by omega)
        rw [d2]
        exact ⟨d1 v1', v2'⟩
    · obtain ⟨d1, d2⟩ := ch1 c0
      rw [d2]
      exact ⟨d1, Or.inr ⟨rfl, s1, e1, kd1, v1, w1, u1, K1, H1, Lc1, jj, τ1, a1, a2, ⟨a31, a32, a33⟩, a4, a5, a6, a7, a8, ⟨a91, a92⟩, ⟨b1, b2⟩, ⟨b3, b4⟩, b5, b6, b7, b8, m, W1, m1, m2, m3, m4, m5, m6, m7, m8, by omega⟩⟩
/-- a chain as a whole -/
theorem sim_chain {n c c1 lo hb kk k0 : Nat} {L : Nat → Nat → Int32 → zS → Int32 × zS} {Q : Nat → Nat → Int32 → zS → Prop} (hN : 200000 < N) (hlo : 1 ≤ lo) (hlo2 : lo ≤ 2) (hb2 : hb ≤ 2) (hc : ¬ c = 0) (hc1 : ¬ c1 = 0) (hsub : GL E N n c1 (lo + 1) (hb + 1) kk) (hch : ∀ d, CH E N n c1 lo d (L d) (Q d)) (hk0 : 1002 < k0) (hr0 : ∀ d σ, (g_rd N n c1 (nI d) 0 σ).1 = 0 → g_rd N (n + 1) c (nI d) 0 σ = (0, (g_rd N n c1 (nI d) 0 σ).2)) (hr1 : ∀ d σ, (g_rd N n c1 (nI d) 0 σ).1 = 1 → g_rd N (n + 1) c (nI d) 0 σ = L d k0 0 (g_rd N n c1 (nI d) 0 σ).2) (hp : ∀ d σ, h_rd N n c1 (nI d) 0 σ → (¬ (g_rd N n c1 (nI d) 0 σ).1 = 0 → Q d k0 0 (g_rd N n c1 (nI d) 0 σ).2) → h_rd N (n + 1) c (nI d) 0 σ) : GL E N (n + 1) c lo hb (kk + 1) := by
  intro s e kd v w u K H Lc wt d sg h W σ τ p1 p2 p3 p4 p5 p6 p7 p8 p9 p10 p11 p12 p13 p14 p15
  obtain ⟨a1, a2⟩ := hsub s e kd v w u K H Lc wt d sg h W σ τ p1 p2 (by omega) p4 (fun y => absurd y hc1) p6 p7 (fun y => ⟨Or.inr (((p8 y).1).resolve_left hc), (p8 y).2⟩) p9 (by omega) p11 (by omega) p13 p14 (by omega)
  have n10 : ¬ (1 : Int32) = 0 := by decide
  rcases a2 with b1 | ⟨b0, b1, s1, e1, kd1, v1, w1, u1, K1, H1, Lc1, jj, τ1, c1', c2, c3, c4, c5, c6, c7, c8, c9, c10, c11, c12, c13, c14, c15, m, W1, m1, m2, m3, m4, m5, m6, m7, m8, m9⟩
  · obtain ⟨y1, y2⟩ := b1
    refine ⟨hp d σ a1 (fun z => absurd y1 z), Or.inl ?_⟩
    rw [hr0 d σ y1]
    exact ⟨rfl, y2⟩
  · obtain ⟨kf, rfl⟩ : ∃ z, k0 = z + 1 := ⟨k0 - 1, by omega⟩
    have hn := c2.2.1.2.1
    obtain ⟨x1, x2⟩ := chain_loop (K := K) (H := H) (u := u) (s := s) (Lc := Lc) (wt := wt) (h := h) (W := W) (σ := σ) (τ := τ) hN hlo hlo2 hb2 hc1 hsub (hch d) p3 p13 p11 p12 p10 p14 (by omega) (E.nb + 1) s1 e1 kd1 v1 w1 u1 K1 H1 Lc1 jj 0 _ τ1 (by omega) (by omega) ⟨c1', c2, c3, c4, c5, c6, c7, c8, c9, c10, c11, c12, c13, c14, c15, m, W1, by omega, m2, m3, m4, m5, fun i i1 i2 => by have := m6 i i1 i2; omega, m7, m8, m9⟩ kf (by omega)
    have x1 : Q d (kf + 1) 0 (g_rd N n c1 (nI d) 0 σ).2 := x1
    refine ⟨hp d σ a1 (fun _ => x1), ?_⟩
    rw [hr1 d σ b1]
    exact x2.elim Or.inl (fun y => Or.inr ⟨b0, y⟩)
theorem sim_term {n : Nat} (hN : 200000 < N) (q3 : E.q = 16 ∨ E.q = 23) (hsub : GL E N n 3 3 2 2) : GL E N (n + 1) 2 2 1 3 := by
  have e : 2 * (N / 2) + N % 2 = N := by omega
  refine sim_chain (c1 := 3) (lo := 2) (k0 := N / 2) (L := fun d k x σ => l_X3_readTerm (g_rd N n) N (2 * k + N % 2) 0 (nI d) x σ) (Q := fun d k x σ => q_X3_readTerm (h_rd N n) (g_rd N n) N (2 * k + N % 2) 0 (nI d) x σ) hN (by decide) (by decide) (by decide) (by decide) (by decide) hsub (fun d => ch_term q3) (by omega) (fun d σ h => ?_) (fun d σ h => ?_) (fun d σ h1 h2 => ?_)
  · show r_X3_readTerm (g_rd N n) (nI d) N σ = _
    unfold r_X3_readTerm
    rw [if_pos h]
    rfl
  · show r_X3_readTerm (g_rd N n) (nI d) N σ = l_X3_readTerm (g_rd N n) N (2 * (N / 2) + N % 2) 0 (nI d) 0 _
    rw [e]
    unfold r_X3_readTerm
    rw [if_neg (by rw [h]; decide)]
    rfl
  · show p_X3_readTerm (h_rd N n) (g_rd N n) (nI d) N σ
    have h2 : ¬ (g_rd N n 3 (nI d) 0 σ).1 = 0 → q_X3_readTerm (h_rd N n) (g_rd N n) N (2 * (N / 2) + N % 2) 0 (nI d) 0 (g_rd N n 3 (nI d) 0 σ).2 := h2
    rw [e] at h2
    exact ⟨h1, h2⟩
theorem sim_sum {n : Nat} (hN : 200000 < N) (q3 : E.q = 16 ∨ E.q = 23) (hsub : GL E N n 2 2 1 3) : GL E N (n + 1) 1 1 0 4 := by
  refine sim_chain (c1 := 2) (lo := 1) (k0 := N) (L := fun d k x σ => l_X3_readSum (g_rd N n) N k (nI d) x σ) (Q := fun d k x σ => q_X3_readSum (h_rd N n) (g_rd N n) N k (nI d) x σ) hN (by decide) (by decide) (by decide) (by decide) (by decide) hsub (fun d => ch_sum q3) (by omega) (fun d σ h => ?_) (fun d σ h => ?_) (fun d σ h1 h2 => ⟨h1, h2⟩)
  · show r_X3_readSum (g_rd N n) (nI d) N σ = _
    unfold r_X3_readSum
    rw [if_pos h]
    rfl
  · show r_X3_readSum (g_rd N n) (nI d) N σ = _
    unfold r_X3_readSum
    rw [if_neg (by rw [h]; decide)]
    rfl
end IS
