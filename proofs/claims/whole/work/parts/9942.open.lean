/-! ( and - as units: both sides -/
section IS
variable {N : Nat} {E : EV} {σ σ1 σ2 τ τ1 τ2 : zS} {K K1 K2 : aK} {H H1 : Nat → Nat}
theorem SKs.ww {wt : Nat} {W W1 : Nat → Nat} (h : SKs τ wt W1) (e : ∀ i, i < wt → W1 i = W i) : SKs τ wt W := ⟨h.1, h.2.1, fun i hi => by rw [← e i hi]; exact h.2.2 i hi⟩
/-- to the head of the unit that a ( or a - opens -/
theorem rf_open {s e kd v w u Lc wt d sg o sg1 : Nat} {W : Nat → Nat} (hh : PS E s e kd v w u K Lc Lc wt W d sg σ τ) (hN : 200000 < N) (sg2 : sg ≤ 1) (hp : p_X9_isTooMany (nI E.b) τ) (hk : sg = 0 → ¬ kd = 320 ∧ (tpW wt W = 105 → ¬ kd = 41)) (d6 : d ≤ 6) (hw : wt < 90) (ko : (kd = 40 ∧ o = 104 ∧ sg1 = 0) ∨ (kd = 45 ∧ o = 7 ∧ sg1 = 1)) : ((u = 80 ∨ 5 < d ∨ ¬ f_X9_isTooMany (nI E.b) τ = 0) → ∃ τf, Rn N E.b 1 τ τf ∧ FLm 5 τ τf) ∧ (u < 80 → d ≤ 5 → f_X9_isTooMany (nI E.b) τ = 0 → ∃ s2 e2 kd2 v2 w2 τ3, p_X6_next N (zuI σ E.q 8 (nI (u + 1))) ∧ Rn N E.b 1 τ τ3 ∧ PS E s2 e2 kd2 v2 w2 (u + 1) K Lc Lc (wt + 1) (fun i => if i = wt then o else W i) (d + 1) sg1 (s_X6_next N (zuI σ E.q 8 (nI (u + 1)))) τ3 ∧ rfr (sRC E.q) σ (s_X6_next N (zuI σ E.q 8 (nI (u + 1)))) ∧ rfr (sRM E.b) τ τ3 ∧ e ≤ s2 ∧ (∀ i, i < wt → τ3.1 490 i = τ.1 490 i ∧ τ3.1 491 i = τ.1 491 i) ∧ (s_X6_next N (zuI σ E.q 8 (nI (u + 1)))).1 2 6 = σ.1 2 6) := by
  obtain ⟨hE, hT, ⟨hu1, hu2, u80⟩, hC, hM, hS, h38, h39, h25⟩ := hh
  have hE0 := hE
  obtain ⟨hTC, hTM, -, -, ⟨q1, q3, b2⟩, -⟩ := hE
  have hen := hT.2.1
  obtain ⟨r1, r2⟩ := ru_head (N := N) (b := E.b) hT hTM h25 hS h39 sg2 (fun y1 y2 => (hk y1).2 y2)
  have hv : ((if kd = 40 then (1 : Int32) else 0) = 1 ∧ (if kd = 45 then (1 : Int32) else 0) = 0) ∨ ((if kd = 40 then (1 : Int32) else 0) = 0 ∧ (if kd = 45 then (1 : Int32) else 0) = 1) := by
    rcases ko with y | y
    · left
      rw [if_pos y.1, if_neg (by omega)]
      exact ⟨rfl, rfl⟩
    · right
      rw [if_pos y.1, if_neg (by omega)]
      exact ⟨rfl, rfl⟩
  have hw2 : sg = 0 → f_X9_isWord 10 τ = 0 := fun y => by
    have e : f_X9_isWord (nI 10) τ = if kd = 310 + 10 then 1 else 0 := rk_word hT h25 (by decide)
    have e : f_X9_isWord 10 τ = if kd = 310 + 10 then 1 else 0 := e
    rw [e, if_neg (hk y).1]
  obtain ⟨N1, hN1⟩ : ∃ z, N = z + 1 + 8 := ⟨N - 9, by omega⟩
  obtain ⟨x1, x2⟩ := ru_sgn (N := N) (b := E.b) (z := N1 + 1) hT h25 (by omega) hv
  rw [← hN1, ← r1] at x1
  rw [← hN1] at x2
  generalize hV2 : (if kd = 40 then (1 : Int32) else 0) = V2 at *
  generalize hV3 : (if kd = 45 then (1 : Int32) else 0) = V3 at *
  obtain ⟨y1, y2⟩ := ru_cnt (N := N) (z := N1 + 1) (v2 := V2) (v3 := V3) (v4 := 0) (v5 := -1) (v6 := -1) h25 b2 hp hu2 u80 h38 (by omega)
  refine ⟨fun ct => ?_, fun u79 d5 htm => ?_⟩
  · obtain ⟨a1, a2⟩ := y1 ct
    have a2 : FLm 5 τ (s_X9_readUnit (nI E.b) N τ) := by rw [x1]; exact a2
    exact ⟨_, rn_unit (N := N) (b := E.b) h25 h39 sg2 hw2 (r2 (x2 a1)), a2⟩
  · obtain ⟨a1, a2⟩ := y2 u79 d5 htm
    have hS1 : SKs (zuI τ 478 E.b (nI (u + 1))) wt W := hS.eq (gI_n (by omega)) (fun i _ => gI_n (by omega))
    obtain ⟨p1, p2, p3⟩ := rf_push (x := 0) (y := 0) (o := o) hS1 (by omega) (by omega)
    have oP : ∀ Q j, ¬ ((489 ≤ Q ∧ Q ≤ 491 ∧ j = wt) ∨ (Q = 468 ∧ j = 37) ∨ (Q = 478 ∧ j = E.b)) → (s_X9_push (nI o) 0 0 (zuI τ 478 E.b (nI (u + 1)))).1 Q j = τ.1 Q j := fun Q j y => by rw [p2, gI_n (by omega), gI_n (by omega), gI_n (by omega), gI_n (by omega), gI_n (by omega)]
    generalize hτp : zuI (zuI (s_X9_push (nI o) 0 0 (zuI τ 478 E.b (nI (u + 1)))) 468 38 (nI (d + 1))) 468 39 (nI sg1) = τp
    have oQ : ∀ Q j, ¬ ((489 ≤ Q ∧ Q ≤ 491 ∧ j = wt) ∨ (Q = 468 ∧ 37 ≤ j ∧ j ≤ 39) ∨ (Q = 478 ∧ j = E.b)) → τp.1 Q j = τ.1 Q j := fun Q j y => by rw [← hτp, gI_n (by omega), gI_n (by omega), oP _ _ (by omega)]
    have hTM1 : TM E.nb E.tx τp := hTM.eq (fun Q j y => oQ _ _ (by omega))
    have hTC1 : TC E.nb E.tx (zuI σ E.q 8 (nI (u + 1))) := hTC.eq (fun Q jx y => gI_n (by omega)) rfl
    obtain ⟨n1, n2, -, s2, e2, kd2, v2, w2, t1, t2, t3, t4, -⟩ := pr_next (N := N) (p := e) hTC1 hTM1 ((gI_n (by omega)).trans hT.2.2.2.2.2.2.2.1) ((oQ _ _ (by omega)).trans hT.2.2.2.2.2.2.2.2.2.2.1) hen (by omega)
    have oS : ∀ Q j, ¬ (Q = 468 ∧ 20 ≤ j ∧ j ≤ 24) → (s_X9_scan N τp).1 Q j = τp.1 Q j := t3.2
    have s39 : (s_X9_scan N τp).1 468 39 = nI sg1 := by rw [oS _ _ (by omega), ← hτp]; exact gI_h rfl rfl
    have n39 : ¬ (s_X9_scan N τp).1 468 39 = 2 := by
      rw [s39]
      intro y
      have := (nI_eq (b := 2) (by omega) (by decide)).mp y
      omega
    obtain ⟨b1, b3⟩ := ru_open (N := N) (b := E.b) (z := N1) (v2 := V2) (v3 := V3) (v5 := -1) (v6 := -1) (d := d) (o := o) (sg := sg1) h25 b2 hu2 (by
      rcases ko with y | y
      · left
        rw [if_pos y.1] at hV2
        rw [if_neg (by omega)] at hV3
        exact ⟨hV2.symm, hV3.symm, y.2⟩
      · right
        rw [if_neg (by omega)] at hV2
        rw [if_pos y.1] at hV3
        exact ⟨hV2.symm, hV3.symm, y.2⟩) p1 ((oP _ _ (by omega)).trans h38) (by rw [hτp]; exact n2) (by rw [hτp]; exact n39)
    rw [hτp] at b3
    have rn := rn_unit (N := N) (b := E.b) h25 h39 sg2 hw2 (r2 (x2 (a2 b1)))
    have ex : s_X9_readUnit (nI E.b) N τ = s_X9_scan N τp := by rw [x1, ← b3]; exact a1
    rw [ex] at rn
    have fC : rfr (sRC E.q) σ (s_X6_next N (zuI σ E.q 8 (nI (u + 1)))) := (rfr.rf.uI (show sRC E.q E.q 8 from Or.inr (Or.inr (Or.inl ⟨rfl, Or.inl rfl⟩)))).tr (rfr.tc t2)
    have fp : rfr (sRM E.b) τ τp := ⟨by rw [← hτp, p2]; rfl, fun Q j y => oQ Q j (fun z => y (by unfold sRM; omega))⟩
    have fM : rfr (sRM E.b) τ (s_X9_scan N τp) := fp.tr (rfr.tm t3)
    have cN : ∀ Q j, ¬ Q = 3 → (s_X6_next N (zuI σ E.q 8 (nI (u + 1)))).1 Q j = (zuI σ E.q 8 (nI (u + 1))).1 Q j := fun Q j y => t2.2 _ _ (fun z => y z.1)
    refine ⟨s2, e2, kd2, v2, w2, _, n1, rn, ⟨hE0.fr fC fM, t1, ⟨(cN _ _ (by omega)).trans (gI_h rfl rfl), ?_, by omega⟩, hC.eq (fun Q j y => by rw [cN _ _ (by omega), gI_n (by omega)]), hM.eq (fun Q j y => by rw [oS _ _ (by omega), oQ _ _ (by omega)]), p3.eq ?_ (fun i _ => ?_), ?_, s39, ?_⟩, fC, fM, t4, fun i hi => ⟨?_, ?_⟩, ?_⟩
    · rw [oS _ _ (by omega), ← hτp, gI_n (by omega), gI_n (by omega), p2, gI_n (by omega), gI_n (by omega), gI_n (by omega), gI_n (by omega)]
      exact gI_h rfl rfl
    · rw [oS _ _ (by omega), ← hτp, gI_n (by omega), gI_n (by omega)]
    · rw [oS _ _ (by omega), ← hτp, gI_n (by omega), gI_n (by omega)]
    · rw [oS _ _ (by omega), ← hτp, gI_n (by omega)]
      exact gI_h rfl rfl
    · rw [oS _ _ (by omega), oQ _ _ (by omega)]
      exact h25
    · rw [oS _ _ (by omega), oQ _ _ (by omega)]
    · rw [oS _ _ (by omega), oQ _ _ (by omega)]
    · rw [cN _ _ (by omega), gI_n (by omega)]
/-- a - -/
theorem sim_min {n s e kd v w u Lc wt j d sg h : Nat} {W : Nat → Nat} (hU : GU E N n) (hh : PS E s e kd v w u K Lc Lc (wt + j) W (d + j) sg σ τ) (hN : 200000 < N) (hW : ∀ i, wt ≤ i → i < wt + j → W i = 7) (hw0 : wt = 0 ∨ ¬ W (wt - 1) = 7) (sg2 : sg ≤ 1) (hsp : SP E.b s σ τ) (hp : p_X9_isTooMany (nI E.b) τ) (hk : sg = 0 → ¬ kd = 320 ∧ (tpW (wt + j) W = 105 → ¬ kd = 41)) (hH : H Lc = h) (h28 : h ≤ 5 * (d + j) + 2) (d6 : d + j ≤ 6) (hwt : wt + j ≤ 8 * (d + j) + 6) (hLc : Lc ≤ 4 * u) (htk : ∀ f, f < E.nf → K.2.2.2 f = E.ar f) (hms : 7 * (6 - (d + j)) + 2 ≤ n + 1) (kk : kd = 45) : h_rd N (n + 1) 3 (nI (d + j)) 0 σ ∧ RES E N K H Lc h u s wt (g_rd N (n + 1) 3 (nI (d + j)) 0 σ) σ τ (QU E wt j d W) := by
  obtain ⟨ro1, ro2⟩ := rf_open (o := 7) (sg1 := 1) hh hN sg2 hp hk d6 (by omega) (Or.inr ⟨kk, rfl, rfl⟩)
  obtain ⟨hE, hT, ⟨hu1, hu2, u80⟩, hC, hM, hS, h38, h39, h25⟩ := hh
  obtain ⟨hTC, hTM, -, -, ⟨q1, q3, b2⟩, -⟩ := hE
  have hn := hTM.2.1
  have hse := hT.1
  have hen := hT.2.1
  have hs1 : s ≤ 1000 := by omega
  have h33 : σ.1 3 3 = nI s := hT.2.2.2.2.2.2.1
  have h21 := hT.2.2.2.2.2.2.2.2.2.1
  have c2 : σ.1 3 2 = nI 45 := by rw [hT.2.2.2.2.2.1, kk]
  have ntm := sp_tm (u := u) (d := d + j) hsp h33 hs1
  obtain ⟨N1, hN1⟩ : ∃ z, N - 1 = z + 1 + 1 := ⟨N - 3, by omega⟩
  by_cases ct : u = 80 ∨ 5 < d + j ∨ ¬ f_X9_isTooMany (nI E.b) τ = 0
  · obtain ⟨τf, rn, fl⟩ := ro1 ct
    obtain ⟨x1, x2, -⟩ := cu_sgn (P := h_rd N n) (G := g_rd N n) (N := N) (d := d + j) (kd := 45) q1 (ly_q q3) hu1 u80 (by omega) c2 (Or.inr rfl) (by omega) (fun y => absurd (ntm.mpr ct) y)
    have x2 : g_rd N (n + 1) 3 (nI (d + j)) 0 σ = (0, zuI (zuI σ 2 2 5) 2 3 (σ.1 3 3)) := x2 (ntm.mpr ct)
    obtain ⟨f1, f2⟩ := ft_of (E := E) (σ := σ) (c := 5) (x := 5) (y := σ.1 3 3) (by decide) (by decide) hs1 rfl h33 fl h21
    refine ⟨x1, Or.inl ?_⟩
    rw [x2]
    exact ⟨rfl, 1, _, by omega, rn, ⟨f1, ft_L hM fl (by omega)⟩, rc_ref rfr.rf, f2⟩
  · have htm : f_X9_isTooMany (nI E.b) τ = 0 := Classical.byContradiction fun z => ct (Or.inr (Or.inr z))
    have h26 := sp_no hsp htm
    have u79 : ¬ u = 80 := fun z => ct (Or.inl z)
    have d5 : ¬ 5 < d + j := fun z => ct (Or.inr (Or.inl z))
    have ntm' : ¬ tmU u (d + j) σ := fun z => ct (ntm.mp z)
    clear ct
    obtain ⟨s2, e2, kd2, v2, w2, τ3, r1, r2, r3, r4, r5, r6, r7, r8⟩ := ro2 (by omega) (by omega) htm
    have t39 : τ3.1 468 39 = 1 := r3.2.2.2.2.2.2.2.1
    obtain ⟨tm1, tm2⟩ := tm_s1 (x := nI E.b) t39
    have hss : s < s2 := by
      have := hT.2.2.2.1 (by omega)
      omega
    obtain ⟨g1, g2⟩ := hU s2 e2 kd2 v2 w2 (u + 1) K H Lc wt (j + 1) d 1 h (fun i => if i = wt + j then 7 else W i) (s_X6_next N (zuI σ E.q 8 (nI (u + 1)))) τ3 r3 (fun i i1 i2 => by
      show (if i = wt + j then 7 else W i) = 7
      by_cases c : i = wt + j
      · rw [if_pos c]
      · rw [if_neg c]; exact hW i i1 (by omega)) (by
      rcases hw0 with y | y
      · exact Or.inl y
      · by_cases c : wt = 0
        · exact Or.inl c
        · right
          show ¬ (if wt - 1 = wt + j then 7 else W (wt - 1)) = 7
          rw [if_neg (by omega)]
          exact y) (by omega) (Or.inl ⟨tm1, r8.trans h26⟩) tm2 (fun y => absurd y (by decide)) hH (by omega) (by omega) (by omega) (by omega) htk (by omega)
    have g1 : h_rd N n 3 (nI (d + j + 1)) 0 (s_X6_next N (zuI σ E.q 8 (nI (u + 1)))) := g1
    have g2 : RES E N K H Lc h (u + 1) s2 wt (g_rd N n 3 (nI (d + j + 1)) 0 (s_X6_next N (zuI σ E.q 8 (nI (u + 1))))) (s_X6_next N (zuI σ E.q 8 (nI (u + 1)))) τ3 (QU E wt (j + 1) d (fun i => if i = wt + j then 7 else W i)) := g2
    have n10 : ¬ (1 : Int32) = 0 := by decide
    rcases g2 with ⟨g0, jj2, τ4, x1, x2, x3, x4, x5⟩ | ⟨-, gg, s3, e3, kd3, v3, w3, u3, K3, H3, Lc3, jj2, τ4, x1, x2, ⟨x31, x32, x33⟩, x4, x5, x6, x7, x8, ⟨x91, x92⟩, ⟨y1, y2⟩, ⟨y3, y4⟩, y5, y6, y7, y8, z1, z2, z3, z4⟩
    · obtain ⟨m1, m2, -⟩ := cu_min (P := h_rd N n) (G := g_rd N n) (N := N) (d := d + j) (z := N1) (x4 := σ.1 3 3) q1 (ly_q q3) hu1 r1 g1 (fun y => absurd g0 y)
      rw [← hN1] at m1 m2
      obtain ⟨w1', -, w2'⟩ := cu_sgn (P := h_rd N n) (G := g_rd N n) (N := N) (d := d + j) (kd := 45) q1 (ly_q q3) hu1 u80 (by omega) c2 (Or.inr rfl) (by omega) (fun _ => m1)
      have w2' : g_rd N (n + 1) 3 (nI (d + j)) 0 σ = _ := w2' ntm'
      refine ⟨w1', Or.inl ?_⟩
      rw [w2', m2 g0]
      exact ⟨rfl, 1 + jj2, τ4, by omega, r2.tr x2, x3, r4.dd.tr x4, r5.nn.tr x5⟩
    · have kL := z4 Lc3 (by omega) (by omega)
      obtain ⟨e1', e2', e3', e4'⟩ := cl_emit (x := 2) (y := 0) x4 (by omega) (by rw [kL.1]; rfl) kL.2.symm
      obtain ⟨m1, -, m2⟩ := cu_min (P := h_rd N n) (G := g_rd N n) (N := N) (d := d + j) (z := N1) (x4 := σ.1 3 3) q1 (ly_q q3) hu1 r1 g1 (fun y => ⟨x2.2.2.2.2.1.1, e1'⟩)
      rw [← hN1] at m1 m2
      obtain ⟨w1', -, w2'⟩ := cu_sgn (P := h_rd N n) (G := g_rd N n) (N := N) (d := d + j) (kd := 45) q1 (ly_q q3) hu1 u80 (by omega) c2 (Or.inr rfl) (by omega) (fun _ => m1)
      have w2' : g_rd N (n + 1) 3 (nI (d + j)) 0 σ = _ := w2' ntm'
      refine ⟨w1', Or.inr ⟨htm, ?_⟩⟩
      rw [w2', m2 (by rw [gg]; exact n10)]
      generalize hσ5 : (r_X2_emit E.q 2 0 (g_rd N n 3 (nI (d + j + 1)) 0 (s_X6_next N (zuI σ E.q 8 (nI (u + 1))))).2).2 = σ5 at *
      have cE : ∀ Q jx, ¬ sEm E.q Q jx → σ5.1 Q jx = (g_rd N n 3 (nI (d + j + 1)) 0 (s_X6_next N (zuI σ E.q 8 (nI (u + 1))))).2.1 Q jx := e4'.2
      have ak : agK (seK K3 Lc3 7 0) K3 (Lc3 + 1) := ⟨fun i hi => by
        by_cases c : i = Lc3
        · rw [c]
          exact ⟨kL.1.trans seK_o.1.symm, kL.2.trans seK_o.2.symm⟩
        · have := (seK_ag (K := K3) (L := Lc3) (o := 7) (x := 0)).1 i (by omega)
          exact ⟨this.1.symm, this.2.symm⟩, rfl⟩
      refine ⟨rfl, s3, e3, kd3, v3, w3, u3, K3, seH H3 (Lc3 + 1) (h + 1), Lc3 + 1, 1 + jj2, τ4, x1.eq (fun j y1 y2 => cE _ _ (fun z => by unfold sEm at z; omega)) (fun _ _ _ => rfl), x2.fr (rfr.em e4') rfr.rf, ⟨(cE _ _ (fun z => by unfold sEm at z; omega)).trans x31, x32, x33⟩, e3', x5, x6, (cE _ _ (fun z => by unfold sEm at z; omega)).trans x7, x8.tr ((ts_min x91 (by omega)).ag ak), ⟨seH_o, x92⟩, ⟨by omega, by omega⟩, ⟨by omega, by omega⟩, r2.tr y5, (r4.tr y6).tr (rfr.em e4'), r5.tr y7, fun i hi => ⟨?_, ?_⟩, ?_, ?_, z3, fun i i1 i2 => z4 i (by omega) (by omega)⟩
      · rw [(y8 i hi).1, (r7 i (by omega)).1]
      · rw [(y8 i hi).2, (r7 i (by omega)).2]
      · rw [show Lc3 + 1 + j = Lc3 + (j + 1) by omega]
        exact z1
      · exact z2.ww (fun i hi => if_neg (by omega))
end IS
