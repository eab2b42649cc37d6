/-! the end of a sum; a formula within ( ) -/
section IS
variable {N : Nat} {E : EV} {σ σ1 σ2 τ τ1 τ2 : zS} {K K1 K2 : aK} {H H1 : Nat → Nat}
/-- no operator: the reference lays all that waits of the sum, and ends it -/
theorem rf_end {s1 e1 kd1 v1 w1 wt d Lc1 : Nat} {W : Nat → Nat} (hT : TKs E.tx E.nb s1 e1 kd1 v1 w1 σ1 τ1) (hE : EN E σ1 τ1) (h25 : τ1.1 468 25 = 0) (h39 : τ1.1 468 39 = 2) (h0 : bndT wt W = 0) (hL : Lc1 ≤ 400) (hQ : QT E wt d 1 1 W kd1 Lc1 K1 τ1) (hN : 200000 < N) : ∃ τ2, SKs τ2 wt W ∧ MKc τ2 E.b K1 Lc1 ∧ rfr (fun Q j => sLa E.b Q j ∨ (Q = 468 ∧ j = 37)) τ1 τ2 ∧ τ2.1 468 38 = nI d ∧ (p_X9_endSum (nI E.b) N τ2 → Rn N E.b 1 τ1 (s_X9_endSum (nI E.b) N τ2)) := by
  have b2 := hE.2.2.2.2.1.2.2
  obtain ⟨m, W1, m1, m2, m3, m4, m5, m6, m7, m8, m9⟩ := hQ
  have o0 : opK kd1 = 0 := by
    have o6 := op_6 (kd := kd1)
    have hb : bnd (opK kd1) = 0 := by omega
    have h1 : ¬ opK kd1 = 1 := by
      unfold opK
      split
      · omega
      · split
        · omega
        · split
          · omega
          · split
            · omega
            · split <;> omega
    unfold bnd at hb
    by_cases c1 : opK kd1 = 2 ∨ opK kd1 = 3
    · rw [if_pos c1] at hb; omega
    · rw [if_neg c1] at hb
      by_cases c2 : 4 ≤ opK kd1 ∧ opK kd1 ≤ 6
      · rw [if_pos c2] at hb; omega
      · omega
  obtain ⟨z, hz⟩ : ∃ z, N = z + m + 1 := ⟨N - m - 1, by omega⟩
  obtain ⟨τ2, g1, g2, g3, g4, g5⟩ := rb_end (N := N) (K := K1) b2 (wt := wt) (W := W1) (v2 := -1) ((bndT_eq m5).trans h0) m (Lc1 - m) τ1 m4 m6 m3 (by omega) m8 z
  rw [← hz] at g1 g2
  obtain ⟨f1, f2⟩ := rf_between hT hE.2.1 h25
  rw [if_pos o0] at f2
  refine ⟨τ2, g3.ww m5, ?_, g5, ?_, fun y => ?_⟩
  · rw [show Lc1 - m + m = Lc1 by omega] at g4
    exact g4
  · rw [g5.2 _ _ (fun z => by unfold sLa at z; omega)]
    exact m7
  · have eg : s_X9_goBehind (nI E.b) N τ1 = s_X9_endSum (nI E.b) N τ2 := by
      unfold s_X9_goBehind
      rw [f2, if_pos rfl, g1]
    have pg : p_X9_goBehind (nI E.b) N τ1 := by
      unfold p_X9_goBehind
      rw [f2]
      exact ⟨f1, fun _ => g2 y, fun z => absurd rfl z⟩
    have rn := rn_behind (N := N) (b := E.b) h25 h39 pg
    rw [eg] at rn
    exact rn
/-- closing: what waits is taken off, the next token, minuses laid -/
theorem rf_close {s1 e1 kd1 v1 w1 wt j d L : Nat} {W : Nat → Nat} (hE : EN E σ1 τ1) (hT : TKs E.tx E.nb s1 e1 kd1 v1 w1 σ1 τ1) (hS : SKs τ1 (wt + j + 1) W) (hW : ∀ i, wt ≤ i → i < wt + j → W i = 7) (h0 : wt = 0 ∨ ¬ W (wt - 1) = 7) (hM : MKc τ1 E.b K L) (hL : L + j ≤ 400) (hK : ∀ i, L ≤ i → i < L + j → K.1 i = 7 ∧ K.2.1 i = 0) (h38 : τ1.1 468 38 = nI (d + j + 1)) (hN : 200000 < N) (j9 : j ≤ 100) (d9 : d ≤ 100) : p_X6_next N σ1 ∧ p_X9_close (nI E.b) N τ1 ∧ ∃ s2 e2 kd2 v2 w2, TKs E.tx E.nb s2 e2 kd2 v2 w2 (s_X6_next N σ1) (s_X9_close (nI E.b) N τ1) ∧ rfr sTC σ1 (s_X6_next N σ1) ∧ e1 ≤ s2 ∧ SKs (s_X9_close (nI E.b) N τ1) wt W ∧ MKc (s_X9_close (nI E.b) N τ1) E.b K (L + j) ∧ (s_X9_close (nI E.b) N τ1).1 468 38 = nI d ∧ (s_X9_close (nI E.b) N τ1).1 468 39 = 2 ∧ rfr (fun Q jx => sLa E.b Q jx ∨ (Q = 468 ∧ ((20 ≤ jx ∧ jx ≤ 24) ∨ (37 ≤ jx ∧ jx ≤ 39)))) τ1 (s_X9_close (nI E.b) N τ1) := by
  have b2 := hE.2.2.2.2.1.2.2
  have hw := hS.2.1
  have e1' : u_X9_close_1 (nI E.b) N τ1 = zuI τ1 468 37 (nI (wt + j)) := by
    unfold u_X9_close_1
    rw [hS.1, nI_s1 (by omega)]
    rfl
  have e2' : u_X9_close_2 (nI E.b) N τ1 = zuI (zuI τ1 468 37 (nI (wt + j))) 468 38 (nI (d + j)) := by
    unfold u_X9_close_2
    rw [e1', gI_n (by omega), h38, nI_s1 (by omega)]
    rfl
  generalize hτp : zuI (zuI τ1 468 37 (nI (wt + j))) 468 38 (nI (d + j)) = τp at e2'
  have oP : ∀ Q jx, ¬ (Q = 468 ∧ (jx = 37 ∨ jx = 38)) → τp.1 Q jx = τ1.1 Q jx := fun Q jx y => by rw [← hτp, gI_n (by omega), gI_n (by omega)]
  have hTM1 : TM E.nb E.tx τp := hE.2.1.eq (fun Q jx y => oP _ _ (by omega))
  obtain ⟨n1, n2, -, s2, e2, kd2, v2, w2, t1, t2, t3, t4, -⟩ := pr_next (N := N) (p := e1) hE.1 hTM1 hT.2.2.2.2.2.2.2.1 ((oP _ _ (by omega)).trans hT.2.2.2.2.2.2.2.2.2.2.1) hT.2.1 (by omega)
  have oS : ∀ Q jx, ¬ (Q = 468 ∧ 20 ≤ jx ∧ jx ≤ 24) → (s_X9_scan N τp).1 Q jx = τp.1 Q jx := t3.2
  have e4' : u_X9_close_4 (nI E.b) N τ1 = zuI (s_X9_scan N τp) 468 39 2 := by
    unfold u_X9_close_4 u_X9_close_3
    rw [e2']
  have sS : SKs (zuI (s_X9_scan N τp) 468 39 2) (wt + j) W := by
    refine ⟨?_, by omega, fun i hi => ⟨(hS.2.2 i (by omega)).1, ?_⟩⟩
    · rw [gI_n (by omega), oS _ _ (by omega), ← hτp, gI_n (by omega)]
      exact gI_h rfl rfl
    · rw [gI_n (by omega), oS _ _ (by omega), oP _ _ (by omega)]
      exact (hS.2.2 i (by omega)).2
  have mS : MKc (zuI (s_X9_scan N τp) 468 39 2) E.b K L := hM.eq (fun Q jx y => by rw [gI_n (by omega), oS _ _ (by omega), oP _ _ (by omega)])
  have dS : (zuI (s_X9_scan N τp) 468 39 2).1 468 38 = nI (d + j) := by
    rw [gI_n (by omega), oS _ _ (by omega), ← hτp]
    exact gI_h rfl rfl
  obtain ⟨c1, c2, c3, c4, c5⟩ := rf_minus (N := N) b2 h0 j d L _ sS hW mS hL hK dS N (by omega)
  have ec : s_X9_close (nI E.b) N τ1 = l_X9_closeMinus N N (nI E.b) (zuI (s_X9_scan N τp) 468 39 2) := by
    unfold s_X9_close u_X9_close_5
    rw [e4']
    rfl
  have oC : ∀ Q jx, ¬ (sLa E.b Q jx ∨ (Q = 468 ∧ (jx = 37 ∨ jx = 38))) → (s_X9_close (nI E.b) N τ1).1 Q jx = (zuI (s_X9_scan N τp) 468 39 2).1 Q jx := by
    rw [ec]
    exact c5.2
  refine ⟨n1, ⟨by rw [e2']; exact n2, by rw [e4']; exact c1⟩, s2, e2, kd2, v2, w2, t1.eq (fun _ _ _ => rfl) (fun jx y1 y2 => by rw [oC _ _ (fun z => by unfold sLa at z; omega), gI_n (by omega)]), t2, t4, by rw [ec]; exact c2, by rw [ec]; exact c3, by rw [ec]; exact c4, ?_, ?_⟩
  · rw [oC _ _ (fun z => by unfold sLa at z; omega)]
    exact gI_h rfl rfl
  · refine ⟨?_, fun Q jx y => ?_⟩
    · rw [ec, c5.1]
      show (s_X9_scan N τp).2 = τ1.2
      rw [t3.1, ← hτp]
      rfl
    · rw [oC _ _ (fun z => y (by
        rcases z with z | z
        · exact Or.inl z
        · exact Or.inr ⟨z.1, Or.inr (by omega)⟩)), gI_n (fun z => y (Or.inr ⟨z.1, Or.inr (by omega)⟩)), oS _ _ (fun z => y (Or.inr ⟨z.1, Or.inl z.2⟩)), oP _ _ (fun z => y (Or.inr ⟨z.1, Or.inr (by omega)⟩))]
theorem rfr.cls {b : Nat} (h : rfr (fun Q jx => sLa b Q jx ∨ (Q = 468 ∧ ((20 ≤ jx ∧ jx ≤ 24) ∨ (37 ≤ jx ∧ jx ≤ 39)))) τ τ1) : rfr (sRM b) τ τ1 := h.wk (fun Q jx y => by
  rcases y with y | y
  · exact Or.inr (Or.inr (Or.inl y))
  · exact Or.inl ⟨y.1, by omega⟩)
/-- not this sign: both refuse the token -/
theorem cl_sign {c kd : Nat} (hk : σ.1 3 2 = nI kd) (k4 : kd < 400) (c4 : c < 400) : (kd = c → r_X3_readSign (nI c) N σ = (1, s_X6_next N σ)) ∧ (¬ kd = c → p_X3_readSign (nI c) N σ ∧ r_X3_readSign (nI c) N σ = (0, zuI (zuI σ 2 2 1) 2 3 (σ.1 3 3))) := by
  refine ⟨fun y => ?_, fun y => ?_⟩
  · unfold r_X3_readSign
    rw [if_pos (by rw [hk, y])]
    rfl
  · have ne : ¬ σ.1 3 2 = nI c := by
      rw [hk]
      exact fun z => y ((nI_eq (by omega) (by omega)).mp z)
    refine ⟨fun z => absurd z ne, ?_⟩
    unfold r_X3_readSign
    rw [if_neg ne]
    rfl
/-- what top is -/
theorem top_at {wt c : Nat} {W : Nat → Nat} (hS : SKs τ (wt + 1) W) (h : W wt = c) : f_X9_top τ = nI c := by
  rw [hS.top.2]
  unfold tpW
  rw [if_neg (by omega), show wt + 1 - 1 = wt by omega, h]
/-- a ( -/
theorem sim_paren {n s e kd v w u Lc wt j d sg h : Nat} {W : Nat → Nat} (hF : GL E N n 0 1 0 5) (hh : PS E s e kd v w u K Lc Lc (wt + j) W (d + j) sg σ τ) (hN : 200000 < N) (hW : ∀ i, wt ≤ i → i < wt + j → W i = 7) (hw0 : wt = 0 ∨ ¬ W (wt - 1) = 7) (sg2 : sg ≤ 1) (hsp : SP E.b s σ τ) (hp : p_X9_isTooMany (nI E.b) τ) (hk : sg = 0 → ¬ kd = 320 ∧ (tpW (wt + j) W = 105 → ¬ kd = 41)) (hH : H Lc = h) (h28 : h ≤ 5 * (d + j) + 2) (d6 : d + j ≤ 6) (hwt : wt + j ≤ 8 * (d + j) + 6) (hLc : Lc ≤ 4 * u) (htk : ∀ f, f < E.nf → K.2.2.2 f = E.ar f) (hms : 7 * (6 - (d + j)) + 2 ≤ n + 1) (kk : kd = 40) : h_rd N (n + 1) 3 (nI (d + j)) 0 σ ∧ RES E N K H Lc h u s wt (g_rd N (n + 1) 3 (nI (d + j)) 0 σ) σ τ (QU E wt j d W) := by
  obtain ⟨ro1, ro2⟩ := rf_open (o := 104) (sg1 := 0) hh hN sg2 hp hk d6 (by omega) (Or.inl ⟨kk, rfl, rfl⟩)
  obtain ⟨hE, hT, ⟨hu1, hu2, u80⟩, hC, hM, hS, h38, h39, h25⟩ := hh
  obtain ⟨hTC, hTM, -, -, ⟨q1, q3, b2⟩, -⟩ := hE
  have hn := hTM.2.1
  have hse := hT.1
  have hen := hT.2.1
  have hs1 : s ≤ 1000 := by omega
  have h33 : σ.1 3 3 = nI s := hT.2.2.2.2.2.2.1
  have h21 := hT.2.2.2.2.2.2.2.2.2.1
  have c2 : σ.1 3 2 = nI 40 := by rw [hT.2.2.2.2.2.1, kk]
  have ntm := sp_tm (u := u) (d := d + j) hsp h33 hs1
  obtain ⟨N1, hN1⟩ : ∃ z, N - 1 = z + 1 + 1 := ⟨N - 3, by omega⟩
  have n10 : ¬ (1 : Int32) = 0 := by decide
  by_cases ct : u = 80 ∨ 5 < d + j ∨ ¬ f_X9_isTooMany (nI E.b) τ = 0
  · obtain ⟨τf, rn, fl⟩ := ro1 ct
    obtain ⟨x1, x2, -⟩ := cu_sgn (P := h_rd N n) (G := g_rd N n) (N := N) (d := d + j) (kd := 40) q1 (ly_q q3) hu1 u80 (by omega) c2 (Or.inl rfl) (by omega) (fun y => absurd (ntm.mpr ct) y)
    have x2 : g_rd N (n + 1) 3 (nI (d + j)) 0 σ = (0, zuI (zuI σ 2 2 5) 2 3 (σ.1 3 3)) := x2 (ntm.mpr ct)
    obtain ⟨f1, f2⟩ := ft_of (E := E) (σ := σ) (c := 5) (x := 5) (y := σ.1 3 3) (by decide) (by decide) hs1 rfl h33 fl h21
    refine ⟨x1, Or.inl ?_⟩
    rw [x2]
    exact ⟨rfl, 1, _, by omega, rn, ⟨f1, ft_L hM fl (by omega)⟩, rc_ref rfr.rf, f2⟩
  · have htm : f_X9_isTooMany (nI E.b) τ = 0 := Classical.byContradiction fun z => ct (Or.inr (Or.inr z))
    have h26 := sp_no hsp htm
    have u79 : ¬ u = 80 := fun z => ct (Or.inl z)
    have d5 : ¬ 5 < d + j := fun z => ct (Or.inr (Or.inl z))
    have ntm' : ¬ tmU u (d + j) σ := fun z => ct (ntm.mp z)
    clear ct
    obtain ⟨s2, e2, kd2, v2, w2, τ3, r1, r2, r3, r4, r5, r6, r7, r8⟩ := ro2 (by omega) (by omega) htm
    have hS3 : SKs τ3 (wt + j + 1) (fun i => if i = wt + j then 104 else W i) := r3.2.2.2.2.2.1
    have tp3 := top_at (c := 104) hS3 (if_pos rfl)
    have tm1 : f_X9_isTooMany (nI E.b) τ3 = 0 := by
      unfold f_X9_isTooMany
      rw [tp3, if_neg (show ¬ nI 104 = 105 by decide)]
      split <;> rfl
    have tm2 : p_X9_isTooMany (nI E.b) τ3 := fun _ => ⟨hS3.top.1, fun y => absurd (tp3.symm.trans y) (by decide)⟩
    have hss : s < s2 := by
      have := hT.2.2.2.1 (by omega)
      omega
    have bt0 : bndT (wt + j + 1) (fun i => if i = wt + j then 104 else W i) = 0 := by
      unfold bndT
      rw [if_neg (by omega)]
      show bnd (if wt + j + 1 - 1 = wt + j then 104 else W (wt + j + 1 - 1)) = 0
      rw [if_pos (by omega)]
      rfl
    obtain ⟨g1, g2⟩ := hF s2 e2 kd2 v2 w2 (u + 1) K H Lc (wt + j + 1) (d + j + 1) 0 h (fun i => if i = wt + j then 104 else W i) (s_X6_next N (zuI σ E.q 8 (nI (u + 1)))) τ3 r3 (Or.inr (by
      show ¬ (if wt + j + 1 - 1 = wt + j then 104 else W (wt + j + 1 - 1)) = 7
      rw [if_pos (by omega)]
      decide)) (by omega) (by omega) (fun _ => rfl) (Or.inl ⟨tm1, r8.trans h26⟩) tm2 (fun _ => ⟨Or.inl rfl, fun y => by
      rw [← hS3.top.2, tp3] at y
      exact absurd y (by decide)⟩) hH (by omega) (by omega) (by omega) (by omega) htk (by omega)
    rcases g2 with ⟨g0, jj2, τ4, x1, x2, x3, x4, x5⟩ | ⟨-, gg, s3, e3, kd3, v3, w3, u3, K3, H3, Lc3, jj2, τ4, x1, x2, ⟨x31, x32, x33⟩, x4, x5, x6, x7, x8, ⟨x91, x92⟩, ⟨y1, y2⟩, ⟨y3, y4⟩, y5, y6, y7, y8, z1⟩
    · obtain ⟨m1, m2, -⟩ := cu_par (P := h_rd N n) (G := g_rd N n) (N := N) (d := d + j) (z := N1) (x4 := σ.1 3 3) q1 (ly_q q3) hu1 r1 g1 (fun y => absurd g0 y)
      rw [← hN1] at m1 m2
      obtain ⟨w1', -, w2'⟩ := cu_sgn (P := h_rd N n) (G := g_rd N n) (N := N) (d := d + j) (kd := 40) q1 (ly_q q3) hu1 u80 (by omega) c2 (Or.inl rfl) (by omega) (fun _ => m1)
      have w2' : g_rd N (n + 1) 3 (nI (d + j)) 0 σ = _ := w2' ntm'
      refine ⟨w1', Or.inl ?_⟩
      rw [w2', m2 g0]
      exact ⟨rfl, 1 + jj2, τ4, by omega, r2.tr x2, x3, r4.dd.tr x4, r5.nn.tr x5⟩
    · obtain ⟨τ5, v1', v2', v3', v4', v5'⟩ := rf_end (W := fun i => if i = wt + j then 104 else W i) x1 x2 x6 x5 bt0 (by omega) z1 hN
      have hkd := x1.kd
      have hE5 : EN E (g_rd N n 0 (nI (d + j + 1)) 0 (s_X6_next N (zuI σ E.q 8 (nI (u + 1))))).2 τ5 := x2.fr rfr.rf v3'.l37
      have o5 : ∀ Q jx, ¬ (sLa E.b Q jx ∨ (Q = 468 ∧ jx = 37)) → τ5.1 Q jx = τ4.1 Q jx := v3'.2
      have hT5 : TKs E.tx E.nb s3 e3 kd3 v3 w3 (g_rd N n 0 (nI (d + j + 1)) 0 (s_X6_next N (zuI σ E.q 8 (nI (u + 1))))).2 τ5 := x1.eq (fun _ _ _ => rfl) (fun jx _ _ => o5 _ _ (fun z => by unfold sLa at z; omega))
      have h255 : τ5.1 468 25 = 0 := (o5 _ _ (fun z => by unfold sLa at z; omega)).trans x6
      have tp5 := top_at (c := 104) v1' (if_pos rfl)
      obtain ⟨at1, at2⟩ := rk_at (c := 41) hT5 hE5.2.1 h255 (by decide)
      have at2 : f_X9_isAt 41 τ5 = if kd3 = 41 then 1 else 0 := at2
      have nn : ∀ c : Int32, ¬ nI 104 = c → ¬ f_X9_top τ5 = c := fun c y z => y (tp5.symm.trans z)
      have s33 : (g_rd N n 0 (nI (d + j + 1)) 0 (s_X6_next N (zuI σ E.q 8 (nI (u + 1))))).2.1 3 3 = nI s3 := x1.2.2.2.2.2.2.1
      have s3l : s3 ≤ 1000 := by have := x1.1; have := x1.2.1; omega
      obtain ⟨sg1', sg2'⟩ := cl_sign (N := N) (c := 41) x1.2.2.2.2.2.1 (by omega) (by decide)
      by_cases ck : kd3 = 41
      · -- closed
        rw [if_pos ck] at at2
        have hK3 : ∀ i, Lc3 ≤ i → i < Lc3 + j → (miK K3 Lc3 j).1 i = 7 ∧ (miK K3 Lc3 j).2.1 i = 0 := fun i i1 i2 => miK_m i1 i2
        obtain ⟨p1, p2, s4, e4, kd4, v4, w4, p3, p4, p5, p6, p7, p8, p9, p10⟩ := rf_close (N := N) (wt := wt) (j := j) (d := d) (K := miK K3 Lc3 j) hE5 hT5 v1' (fun i i1 i2 => by
          show (if i = wt + j then 104 else W i) = 7
          rw [if_neg (by omega)]
          exact hW i i1 i2) (by
          rcases hw0 with y | y
          · exact Or.inl y
          · by_cases c : wt = 0
            · exact Or.inl c
            · right
              show ¬ (if wt - 1 = wt + j then 104 else W (wt - 1)) = 7
              rw [if_neg (by omega)]
              exact y) (v2'.ag miK_ag (Nat.le_refl _)) (by omega) hK3 v4' hN (by omega) (by omega)
        have pe : p_X9_endSum (nI E.b) N τ5 := ⟨v1'.top.1, fun y => absurd y (nn _ (by decide)), fun _ => ⟨fun y => absurd y (nn _ (by decide)), fun _ => ⟨fun y => absurd y (nn _ (by decide)), fun _ => ⟨fun y => absurd y (nn _ (by decide)), fun _ => ⟨fun _ => ⟨at1, fun _ => p2⟩, fun y => absurd tp5 y⟩⟩⟩⟩⟩
        have se : s_X9_endSum (nI E.b) N τ5 = s_X9_close (nI E.b) N τ5 := by
          unfold s_X9_endSum
          rw [if_neg (nn _ (by decide)), if_neg (nn _ (by decide)), if_neg (nn _ (by decide)), if_neg (nn _ (by decide)), if_pos (show f_X9_top τ5 = 104 from tp5), at2, if_neg n10]
          rfl
        have rn := v5' pe
        rw [se] at rn
        have ps : p_X3_readSign 41 N (g_rd N n 0 (nI (d + j + 1)) 0 (s_X6_next N (zuI σ E.q 8 (nI (u + 1))))).2 := fun _ => p1
        have rs : r_X3_readSign 41 N (g_rd N n 0 (nI (d + j + 1)) 0 (s_X6_next N (zuI σ E.q 8 (nI (u + 1))))).2 = (1, s_X6_next N (g_rd N n 0 (nI (d + j + 1)) 0 (s_X6_next N (zuI σ E.q 8 (nI (u + 1))))).2) := sg1' ck
        obtain ⟨m1, -, m2⟩ := cu_par (P := h_rd N n) (G := g_rd N n) (N := N) (d := d + j) (z := N1) (x4 := σ.1 3 3) q1 (ly_q q3) hu1 r1 g1 (fun _ => ps)
        rw [← hN1] at m1 m2
        obtain ⟨w1', -, w2'⟩ := cu_sgn (P := h_rd N n) (G := g_rd N n) (N := N) (d := d + j) (kd := 40) q1 (ly_q q3) hu1 u80 (by omega) c2 (Or.inl rfl) (by omega) (fun _ => m1)
        have w2' : g_rd N (n + 1) 3 (nI (d + j)) 0 σ = _ := w2' ntm'
        refine ⟨w1', Or.inr ⟨htm, ?_⟩⟩
        rw [w2', m2 (by rw [gg]; exact n10) (Or.inr (by rw [rs])), rs]
        have cN : ∀ Q jx, ¬ Q = 3 → (s_X6_next N (g_rd N n 0 (nI (d + j + 1)) 0 (s_X6_next N (zuI σ E.q 8 (nI (u + 1))))).2).1 Q jx = (g_rd N n 0 (nI (d + j + 1)) 0 (s_X6_next N (zuI σ E.q 8 (nI (u + 1))))).2.1 Q jx := fun Q jx y => p4.2 _ _ (fun z => y z.1)
        have o6 : ∀ Q jx, ¬ (sLa E.b Q jx ∨ (Q = 468 ∧ ((20 ≤ jx ∧ jx ≤ 24) ∨ (37 ≤ jx ∧ jx ≤ 39)))) → (s_X9_close (nI E.b) N τ5).1 Q jx = τ5.1 Q jx := p10.2
        have e34 := x1.2.2.2.1 (by omega)
        refine ⟨rfl, s4, e4, kd4, v4, w4, u3, miK K3 Lc3 j, H3, Lc3, 1 + jj2 + 1, _, p3, hE5.fr (rfr.tc p4) p10.cls, ⟨(cN _ _ (by omega)).trans x31, ?_, x33⟩, (x4.ag miK_ag).eq (fun Q jx y => cN _ _ (by omega)), p9, ?_, (cN _ _ (by omega)).trans x7, x8.ag miK_ag, ⟨x91, x92⟩, ⟨by omega, by omega⟩, ⟨by omega, by omega⟩, (r2.tr y5).tr rn, (r4.tr y6).tr (rfr.tc p4), ((r5.tr y7).tr v3'.l37).tr p10.cls, fun i hi => ⟨?_, ?_⟩, p7, ?_, p8, fun i i1 i2 => miK_m i1 i2⟩
        · rw [o6 _ _ (fun z => by unfold sLa at z; omega), o5 _ _ (fun z => by unfold sLa at z; omega)]
          exact x32
        · rw [o6 _ _ (fun z => by unfold sLa at z; omega)]
          exact h255
        · rw [o6 _ _ (fun z => by unfold sLa at z; omega), o5 _ _ (fun z => by unfold sLa at z; omega), (y8 i (by omega)).1, (r7 i (by omega)).1]
        · rw [o6 _ _ (fun z => by unfold sLa at z; omega), o5 _ _ (fun z => by unfold sLa at z; omega), (y8 i (by omega)).2, (r7 i (by omega)).2]
        · exact p6.ww (fun i hi => if_neg (by omega))
      · -- no ) there
        rw [if_neg ck] at at2
        obtain ⟨ps, rs⟩ := sg2' ck
        have pe : p_X9_endSum (nI E.b) N τ5 := ⟨v1'.top.1, fun y => absurd y (nn _ (by decide)), fun _ => ⟨fun y => absurd y (nn _ (by decide)), fun _ => ⟨fun y => absurd y (nn _ (by decide)), fun _ => ⟨fun y => absurd y (nn _ (by decide)), fun _ => ⟨fun _ => ⟨at1, fun y => absurd at2 y⟩, fun y => absurd tp5 y⟩⟩⟩⟩⟩
        have se : s_X9_endSum (nI E.b) N τ5 = s_X9_fail (nI 1) τ5 := by
          unfold s_X9_endSum
          rw [if_neg (nn _ (by decide)), if_neg (nn _ (by decide)), if_neg (nn _ (by decide)), if_neg (nn _ (by decide)), if_pos (show f_X9_top τ5 = 104 from tp5), at2, if_pos rfl]
          rfl
        have rn := v5' pe
        rw [se] at rn
        have fl : FLm 1 τ5 (s_X9_fail (nI 1) τ5) := rf_fail h255
        obtain ⟨f1, f2⟩ := ft_of (E := E) (σ := (g_rd N n 0 (nI (d + j + 1)) 0 (s_X6_next N (zuI σ E.q 8 (nI (u + 1))))).2) (c := 1) (x := 1) (y := (g_rd N n 0 (nI (d + j + 1)) 0 (s_X6_next N (zuI σ E.q 8 (nI (u + 1))))).2.1 3 3) (by decide) (by decide) s3l rfl s33 fl hT5.2.2.2.2.2.2.2.2.2.1
        obtain ⟨m1, -, m2⟩ := cu_par (P := h_rd N n) (G := g_rd N n) (N := N) (d := d + j) (z := N1) (x4 := σ.1 3 3) q1 (ly_q q3) hu1 r1 g1 (fun _ => ps)
        rw [← hN1] at m1 m2
        obtain ⟨w1', -, w2'⟩ := cu_sgn (P := h_rd N n) (G := g_rd N n) (N := N) (d := d + j) (kd := 40) q1 (ly_q q3) hu1 u80 (by omega) c2 (Or.inl rfl) (by omega) (fun _ => m1)
        have w2' : g_rd N (n + 1) 3 (nI (d + j)) 0 σ = _ := w2' ntm'
        have rs : r_X3_readSign 41 N (g_rd N n 0 (nI (d + j + 1)) 0 (s_X6_next N (zuI σ E.q 8 (nI (u + 1))))).2 = _ := rs
        refine ⟨w1', Or.inl ?_⟩
        rw [w2', m2 (by rw [gg]; exact n10) (Or.inl (by rw [rs])), rs]
        exact ⟨rfl, 1 + jj2 + 1, _, by omega, (r2.tr y5).tr rn, ⟨f1, ft_L v2' fl (by omega)⟩, rc_ref (r4.tr y6), ((r5.tr y7).tr v3'.l37).nn.tr f2⟩
end IS
