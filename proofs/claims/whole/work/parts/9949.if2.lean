/-! IF on both sides: then and else -/
section IS
variable {N : Nat} {E : EV} {σ σ1 σ2 τ τ1 τ2 : zS} {K K1 K2 : aK} {H H1 : Nat → Nat}
theorem sim_if2 {n s u Lc wt d h o sA eA kA vA wA uA Lt jj : Nat} {W : Nat → Nat} {Ka : aK} {Ha : Nat → Nat} {τA : zS} (hF : GL E N n 0 1 0 5) (hN : 200000 < N) (d5 : d ≤ 5) (hwt : wt ≤ 8 * d + 2) (h5 : h ≤ 5 * d) (hLc : Lc ≤ 4 * u) (hB0 : bndT wt W = 0) (htk : ∀ f, f < E.nf → K.2.2.2 f = E.ar f) (hms : 7 * (6 - d) + 5 ≤ n + 1) (o9 : 9 ≤ o) (o11 : o ≤ 11) (hp1 : p_X6_next N σ1) (hP1 : h_rd N n 1 (nI d + 1) 0 (s_X6_next N σ1)) (hg1 : (cf1 (g_rd N n) N d σ1).1 = 1) (hg : GD E N K H Lc (h + 1) u s wt σ τ (QA E wt d o W) sA eA kA vA wA uA Ka Ha Lt jj (cf1 (g_rd N n) N d σ1).2 τA) : cfP (h_rd N n) (g_rd N n) N d (nI (cmap o)) σ1 ∧ (BAD E N s (cfR (g_rd N n) N d (nI (cmap o)) σ1) σ τ ∨ GOOD E N K H Lc h u s wt (cfR (g_rd N n) N d (nI (cmap o)) σ1) σ τ (QT E wt d 1 1 W)) := by
  obtain ⟨a1, a2, ⟨a31, a32, a33⟩, a4, a5, a6, a7, a8, ⟨a91, a92⟩, ⟨b1, b2⟩, ⟨b3, b4⟩, b5, b6, b7, b8, b9, b10⟩ := hg
  have n10 : ¬ (1 : Int32) = 0 := by decide
  have g1n : ¬ (cf1 (g_rd N n) N d σ1).1 = 0 := by rw [hg1]; exact n10
  have q1 := a2.2.2.2.2.1.1
  have q3 := a2.2.2.2.2.1.2.1
  have bb := a2.2.2.2.2.1.2.2
  have hl := ly_q q3
  have hn := a2.2.1.2.1
  have er1 : (cf1 (g_rd N n) N d σ1).2.2 2 1 - 1 = E.q := by rw [q1]; rfl
  have nz1 : (cf1 (g_rd N n) N d σ1).2.2 2 1 ≠ 0 := by rw [q1]; omega
  have cm : cmap o = o - 1 := by
    rcases (show o = 9 ∨ o = 10 ∨ o = 11 by omega) with rfl | rfl | rfl <;> rfl
  -- the class's word
  have e2d : cf2 (g_rd N n) N d (nI (cmap o)) σ1 = r_X2_emit E.q (nI (cmap o)) 0 (cf1 (g_rd N n) N d σ1).2 := by
    unfold cf2
    rw [er1]
  obtain ⟨m1, m2, m3, m4⟩ := cl_emit (x := nI (cmap o)) (y := 0) (a4.ag (seK_ag (o := o) (x := 0))) (by omega) (by rw [seK_o.1]) seK_o.2.symm
  rw [← e2d] at m2 m3 m4
  have pe1 : p_X2_emit ((cf1 (g_rd N n) N d σ1).2.2 2 1 - 1) (nI (cmap o)) 0 (cf1 (g_rd N n) N d σ1).2 := by rw [er1]; exact m1
  have cE : ∀ Q jx, ¬ sEm E.q Q jx → (cf2 (g_rd N n) N d (nI (cmap o)) σ1).2.1 Q jx = (cf1 (g_rd N n) N d σ1).2.1 Q jx := m4.2
  -- the reference's sum ends
  obtain ⟨τ5, v1', v2', v3', v4', v5'⟩ := rf_end a1 a2 a6 a5 (bt_top rfl) (by omega) b9 hN
  have o5 : ∀ Q jx, ¬ (sLa E.b Q jx ∨ (Q = 468 ∧ jx = 37)) → τ5.1 Q jx = τA.1 Q jx := v3'.2
  have hE5 : EN E (cf2 (g_rd N n) N d (nI (cmap o)) σ1).2 τ5 := a2.fr (rfr.em m4) v3'.l37
  have hT5 : TKs E.tx E.nb sA eA kA vA wA (cf2 (g_rd N n) N d (nI (cmap o)) σ1).2 τ5 := a1.eq (fun jx _ _ => cE _ _ (fun z => by unfold sEm at z; omega)) (fun jx _ _ => o5 _ _ (fun z => by unfold sLa at z; omega))
  have h255 : τ5.1 468 25 = 0 := (o5 _ _ (fun z => by unfold sLa at z; omega)).trans a6
  have h91 : τ5.1 491 wt = nI o := (o5 _ _ (fun z => by unfold sLa at z; omega)).trans b10
  have hkA := a1.kd
  have sAl : sA ≤ 1000 := by have := a1.1; have := a1.2.1; omega
  have fC2 : rfr (sRC E.q) σ (cf2 (g_rd N n) N d (nI (cmap o)) σ1).2 := b6.tr (rfr.em m4)
  have fM5 : rfr (sRM E.b) τ τ5 := b7.tr v3'.l37
  obtain ⟨th1, th2⟩ := rf_thn (o := o) (L := Lt) hE5 hT5 h255 v1' (if_pos rfl) h91 (v2'.ag (seK_ag (o := o) (x := 0)) (Nat.le_refl _)) (by omega) seK_o hN
  obtain ⟨sg1, sg2⟩ := cl_sign (N := N) (c := 321) hT5.2.2.2.2.2.1 (by omega) (by decide)
  by_cases ck : kA = 321
  · obtain ⟨p1, p2, p3, s4, e4, kd4, v4, w4, p4, p5, p6, p7, p8, p9, p10, p11⟩ := th2 ck
    have rn := v5' p3
    generalize hτ6 : s_X9_endSum (nI E.b) N τ5 = τ6 at *
    have e3 : cf3 (g_rd N n) N d (nI (cmap o)) σ1 = (1, s_X6_next N (cf2 (g_rd N n) N d (nI (cmap o)) σ1).2) := sg1 ck
    have ps1 : p_X3_readSign 321 N (cf2 (g_rd N n) N d (nI (cmap o)) σ1).2 := fun _ => p1
    have cN : ∀ Q j, ¬ Q = 3 → (s_X6_next N (cf2 (g_rd N n) N d (nI (cmap o)) σ1).2).1 Q j = (cf2 (g_rd N n) N d (nI (cmap o)) σ1).2.1 Q j := fun Q j y => p2.2 _ _ (fun z => y z.1)
    have cN2 : ∀ Q j, ¬ Q = 3 → ¬ sEm E.q Q j → (s_X6_next N (cf2 (g_rd N n) N d (nI (cmap o)) σ1).2).1 Q j = (cf1 (g_rd N n) N d σ1).2.1 Q j := fun Q j y y2 => (cN Q j y).trans (cE Q j y2)
    have s34 : sA < s4 := by
      have := a1.2.2.2.1 (by omega)
      omega
    have p7' : SKs τ6 (wt + 1) (fun i => if i = wt then 102 else W i) := p7.ww (fun i _ => by
      show (if i = wt then 102 else (if i = wt then 101 else W i)) = (if i = wt then 102 else W i)
      by_cases c : i = wt
      · rw [if_pos c, if_pos c]
      · rw [if_neg c, if_neg c, if_neg c])
    obtain ⟨tm1, tm2, tm3⟩ := tm_s0 (x := nI E.b) p7' (if_pos rfl) (by decide) (by decide)
    have hps : PS E s4 e4 kd4 v4 w4 uA (seK Ka Lt o 0) (Lt + 1) (Lt + 1) (wt + 1) (fun i => if i = wt then 102 else W i) (d + 1) 0 (s_X6_next N (cf2 (g_rd N n) N d (nI (cmap o)) σ1).2) τ6 := by
      refine ⟨hE5.fr (rfr.tc p2) p5, p4, ⟨(cN2 _ _ (by omega) (fun z => by unfold sEm at z; omega)).trans a31, ?_, a33⟩, m3.eq (fun Q j y => cN _ _ (by omega)), p10, p7', ?_, p8, ?_⟩
      · rw [p11 _ _ (by omega) (by omega) (fun z => by unfold sLa at z; omega), o5 _ _ (fun z => by unfold sLa at z; omega)]; exact a32
      · rw [p11 _ _ (by omega) (by omega) (fun z => by unfold sLa at z; omega)]; exact v4'
      · rw [p11 _ _ (by omega) (by omega) (fun z => by unfold sLa at z; omega)]; exact h255
    obtain ⟨g3, g4⟩ := hF s4 e4 kd4 v4 w4 uA (seK Ka Lt o 0) (seH Ha (Lt + 1) h) (Lt + 1) (wt + 1) (d + 1) 0 h (fun i => if i = wt then 102 else W i) _ τ6 hps (Or.inr (nt_top (by decide))) (by rw [bt_top rfl]; omega) (by omega) (fun _ => rfl) (Or.inl ⟨tm1, (cN2 _ _ (by omega) (fun z => by unfold sEm at z; omega)).trans a7⟩) tm2 (fun _ => ⟨Or.inl rfl, fun y => absurd y tm3⟩) seH_o (by omega) (by omega) (by omega) (by omega) (fun f hf => by
      show Ka.2.2.2 f = E.ar f
      rw [a8.1.2]; exact htk f hf) (by omega)
    have ed : nI (d + 1) = nI d + 1 := by rw [nI_1]
    rw [ed] at g3 g4
    have ec4 : g_rd N n 0 (nI d + 1) 0 (s_X6_next N (cf2 (g_rd N n) N d (nI (cmap o)) σ1).2) = cf4 (g_rd N n) N d (nI (cmap o)) σ1 := by
      unfold cf4
      rw [e3]
    have ec4p : h_rd N n 0 (nI d + 1) 0 (cf3 (g_rd N n) N d (nI (cmap o)) σ1).2 := by rw [e3]; exact g3
    rw [ec4] at g4
    have fC3 : rfr (sRC E.q) σ (s_X6_next N (cf2 (g_rd N n) N d (nI (cmap o)) σ1).2) := fC2.tr (rfr.tc p2)
    have fM6 : rfr (sRM E.b) τ τ6 := fM5.tr p5
    have RN : Rn N E.b (jj + 1) τ τ6 := b5.tr rn
    have c3n : ¬ (cf3 (g_rd N n) N d (nI (cmap o)) σ1).1 = 0 := by rw [e3]; exact n10
    have CP : (¬ (cf4 (g_rd N n) N d (nI (cmap o)) σ1).1 = 0 → cfP3 (h_rd N n) (g_rd N n) N d (nI (cmap o)) σ1) → cfP (h_rd N n) (g_rd N n) N d (nI (cmap o)) σ1 := fun y => ⟨hp1, hP1, fun _ => ⟨⟨nz1, by rw [er1]; exact hl⟩, pe1, ps1, fun _ => ⟨ec4p, y⟩⟩⟩
    have CR : cfR (g_rd N n) N d (nI (cmap o)) σ1 = (if (cf4 (g_rd N n) N d (nI (cmap o)) σ1).1 = 0 then (0, (cf4 (g_rd N n) N d (nI (cmap o)) σ1).2) else (if (cf7 (g_rd N n) N d (nI (cmap o)) σ1).1 = 0 then (0, (cf7 (g_rd N n) N d (nI (cmap o)) σ1).2) else (if (cf8 (g_rd N n) N d (nI (cmap o)) σ1).1 = 0 then (0, (cf8 (g_rd N n) N d (nI (cmap o)) σ1).2) else (1, cf9 (g_rd N n) N d (nI (cmap o)) σ1)))) := by
      unfold cfR
      rw [if_neg g1n, if_neg c3n]
    rcases g4 with ⟨g0, jj3, τ7, x1, x2, x3, x4, x5⟩ | ⟨-, gg, s5, e5, kd5, v5, w5, uB, Kb, Hb, Lj, jj3, τ7, x1, x2, ⟨x31, x32, x33⟩, x4, x5, x6, x7, x8, ⟨x91, x92⟩, ⟨y1, y2⟩, ⟨y3, y4⟩, y5, y6, y7, y8, z1⟩
    · refine ⟨CP (fun y => absurd g0 y), Or.inl ?_⟩
      rw [CR, if_pos g0]
      exact ⟨rfl, jj + 1 + jj3, τ7, by omega, RN.tr x2, x3, fC3.dd.tr x4, fM6.nn.tr x5⟩
    · have g4n : ¬ (cf4 (g_rd N n) N d (nI (cmap o)) σ1).1 = 0 := by rw [gg]; exact n10
      rw [if_neg g4n] at CR
      have q4 := x2.2.2.2.2.1.1
      have er4 : (cf4 (g_rd N n) N d (nI (cmap o)) σ1).2.2 2 1 - 1 = E.q := by rw [q4]; rfl
      have nz4 : (cf4 (g_rd N n) N d (nI (cmap o)) σ1).2.2 2 1 ≠ 0 := by rw [q4]; omega
      have e5d : cf5 (g_rd N n) N d (nI (cmap o)) σ1 = r_X2_emit E.q 11 0 (cf4 (g_rd N n) N d (nI (cmap o)) σ1).2 := by
        unfold cf5
        rw [er4]
      obtain ⟨j1, j2, j3, j4⟩ := cl_emit (x := 11) (y := 0) (x4.ag (seK_ag (o := 12) (x := 0))) (by omega) (by rw [seK_o.1]; rfl) seK_o.2.symm
      rw [← e5d] at j2 j3 j4
      have q5 : (cf5 (g_rd N n) N d (nI (cmap o)) σ1).2.2 2 1 = E.q + 1 := by rw [j4.1]; exact q4
      have er5 : (cf5 (g_rd N n) N d (nI (cmap o)) σ1).2.2 2 1 - 1 = E.q := by rw [q5]; rfl
      have nz5 : (cf5 (g_rd N n) N d (nI (cmap o)) σ1).2.2 2 1 ≠ 0 := by rw [q5]; omega
      have lt1 := x8.2.2.1
      have kt : Kb.1 Lt = o := ((x8.1.1 Lt (by omega)).1).trans seK_o.1
      have kt2 : (seK Kb Lj 12 0).1 Lt = o := by
        have : (seK Kb Lj 12 0).1 Lt = Kb.1 Lt := if_neg (by omega)
        rw [this, kt]
      have e6d : cf6 (g_rd N n) N d (nI (cmap o)) σ1 = zuI (cf5 (g_rd N n) N d (nI (cmap o)) σ1).2 (E.q + 6) Lt (nI (Lj + 1)) := by
        unfold cf6
        rw [er5, m2, j3.2, put_i (by omega) (by decide)]
      have j5 := ck_put (p := Lt) (x := nI (Lj + 1)) j3 kt2
      rw [← e6d] at j5
      have cE6 : ∀ Q jx, ¬ sEm E.q Q jx → (cf6 (g_rd N n) N d (nI (cmap o)) σ1).1 Q jx = (cf4 (g_rd N n) N d (nI (cmap o)) σ1).2.1 Q jx := fun Q jx y => by rw [e6d, gI_n (fun z => y (Or.inr (Or.inr z.1))), j4.2 _ _ y]
      have fE6 : rfr (sEm E.q) (cf4 (g_rd N n) N d (nI (cmap o)) σ1).2 (cf6 (g_rd N n) N d (nI (cmap o)) σ1) := ⟨by rw [e6d]; exact j4.1, cE6⟩
      obtain ⟨τ8, u1', u2', u3', u4', u5'⟩ := rf_end x1 x2 x6 x5 (bt_top rfl) (by omega) z1 hN
      have o8 : ∀ Q jx, ¬ (sLa E.b Q jx ∨ (Q = 468 ∧ jx = 37)) → τ8.1 Q jx = τ7.1 Q jx := u3'.2
      have hE8 : EN E (cf6 (g_rd N n) N d (nI (cmap o)) σ1) τ8 := x2.fr (rfr.em fE6) u3'.l37
      have hT8 : TKs E.tx E.nb s5 e5 kd5 v5 w5 (cf6 (g_rd N n) N d (nI (cmap o)) σ1) τ8 := x1.eq (fun jx _ _ => cE6 _ _ (fun z => by unfold sEm at z; omega)) (fun jx _ _ => o8 _ _ (fun z => by unfold sLa at z; omega))
      have h258 : τ8.1 468 25 = 0 := (o8 _ _ (fun z => by unfold sLa at z; omega)).trans x6
      have h90 : τ8.1 490 wt = nI Lt := by rw [o8 _ _ (fun z => by unfold sLa at z; omega), (y8 wt (by omega)).1]; exact p9
      have hk5 := x1.kd
      have s5l : s5 ≤ 1000 := by have := x1.1; have := x1.2.1; omega
      have fC6 : rfr (sRC E.q) σ (cf6 (g_rd N n) N d (nI (cmap o)) σ1) := (fC3.tr y6).tr (rfr.em fE6)
      have fM8 : rfr (sRM E.b) τ τ8 := (fM6.tr y7).tr u3'.l37
      have CP3 : p_X3_readSign 322 N (cf6 (g_rd N n) N d (nI (cmap o)) σ1) → (¬ (cf7 (g_rd N n) N d (nI (cmap o)) σ1).1 = 0 → (h_rd N n 0 (nI d + 1) 0 (cf7 (g_rd N n) N d (nI (cmap o)) σ1).2 ∧ (¬ (cf8 (g_rd N n) N d (nI (cmap o)) σ1).1 = 0 → (((cf8 (g_rd N n) N d (nI (cmap o)) σ1).2.2 2 1 ≠ 0 ∧ zlay ((cf8 (g_rd N n) N d (nI (cmap o)) σ1).2.2 2 1 - 1) = (2, 16)) ∧ p_X8_put 400 (((cf8 (g_rd N n) N d (nI (cmap o)) σ1).2.2 2 1 - 1) + 6) (cf5 (g_rd N n) N d (nI (cmap o)) σ1).1 ((cf8 (g_rd N n) N d (nI (cmap o)) σ1).2.1 ((cf8 (g_rd N n) N d (nI (cmap o)) σ1).2.2 2 1 - 1) 9) (cf8 (g_rd N n) N d (nI (cmap o)) σ1).2)))) → cfP (h_rd N n) (g_rd N n) N d (nI (cmap o)) σ1 := fun y y2 => CP (fun _ => ⟨⟨nz4, by rw [er4]; exact hl⟩, by rw [er4]; exact j1, ⟨nz5, by rw [er5]; exact hl⟩, put_p (by decide), y, y2⟩)
      obtain ⟨w1', w2'⟩ := sim_els (K := K) (H := H) (Lc := Lc) (h := h) (u := u) (s := s) (σ := σ) (τ := τ) (Ka := Ka) (Ha := Ha) (Hb := Hb) (n := n) (d := d) (jx := jj + 1 + jj3 + 1) hF hN d5 hwt h5 hms o9 o11 (by omega) (by omega) hE8 hT8 h258 u1' u2' u4' h90 j5 kt ⟨(cE6 _ _ (fun z => by unfold sEm at z; omega)).trans x31, (o8 _ _ (fun z => by unfold sLa at z; omega)).trans x32, x33⟩ ((cE6 _ _ (fun z => by unfold sEm at z; omega)).trans x7) (fun f hf => by
        show Kb.2.2.2 f = E.ar f
        rw [x8.1.2]
        show Ka.2.2.2 f = E.ar f
        rw [a8.1.2]; exact htk f hf) a8 a91 x8 x91 (by omega) (by omega) (by omega) (by omega) (by omega) (fun y => (RN.tr y5).tr (u5' y)) fC6 fM8 (fun i hi => ⟨by rw [o8 _ _ (fun z => by unfold sLa at z; omega), (y8 i (by omega)).1, p11 _ _ (by omega) (by omega) (fun z => by unfold sLa at z; omega), o5 _ _ (fun z => by unfold sLa at z; omega), (b8 i hi).1], by rw [o8 _ _ (fun z => by unfold sLa at z; omega), (y8 i (by omega)).2, p11 _ _ (by omega) (by omega) (fun z => by unfold sLa at z; omega), o5 _ _ (fun z => by unfold sLa at z; omega), (b8 i hi).2]⟩)
      rcases w2' with ⟨c7, w3⟩ | ⟨c7, w3, w4⟩
      · have c7 : (cf7 (g_rd N n) N d (nI (cmap o)) σ1).1 = 0 := c7
        refine ⟨CP3 w1' (fun y => absurd c7 y), Or.inl ?_⟩
        rw [CR, if_pos c7]
        exact w3
      · have c7 : ¬ (cf7 (g_rd N n) N d (nI (cmap o)) σ1).1 = 0 := c7
        rw [if_neg c7] at CR
        rcases w4 with ⟨c8, w5'⟩ | ⟨c8, q8, w5'⟩
        · have c8 : (cf8 (g_rd N n) N d (nI (cmap o)) σ1).1 = 0 := c8
          refine ⟨CP3 w1' (fun _ => ⟨w3, fun y => absurd c8 y⟩), Or.inl ?_⟩
          rw [CR, if_pos c8]
          exact w5'
        · have c8 : (cf8 (g_rd N n) N d (nI (cmap o)) σ1).1 = 1 := c8
          have q8 : (cf8 (g_rd N n) N d (nI (cmap o)) σ1).2.2 2 1 = E.q + 1 := q8
          have g8n : ¬ (cf8 (g_rd N n) N d (nI (cmap o)) σ1).1 = 0 := by rw [c8]; exact n10
          have er8 : (cf8 (g_rd N n) N d (nI (cmap o)) σ1).2.2 2 1 - 1 = E.q := by rw [q8]; rfl
          have nz8 : (cf8 (g_rd N n) N d (nI (cmap o)) σ1).2.2 2 1 ≠ 0 := by rw [q8]; omega
          refine ⟨CP3 w1' (fun _ => ⟨w3, fun _ => ⟨⟨nz8, by rw [er8]; exact hl⟩, put_p (by decide)⟩⟩), Or.inr ?_⟩
          rw [CR, if_neg g8n]
          have e9d : cf9 (g_rd N n) N d (nI (cmap o)) σ1 = zuI (cf8 (g_rd N n) N d (nI (cmap o)) σ1).2 (E.q + 6) Lj ((cf8 (g_rd N n) N d (nI (cmap o)) σ1).2.1 E.q 9) := by
            unfold cf9
            rw [er8, j2, put_i (by omega) (by decide)]
          rw [e9d]
          exact w5'
  · obtain ⟨p3, fl⟩ := th1 ck
    have rn := v5' p3
    obtain ⟨ps1, e3⟩ := sg2 ck
    have e3 : cf3 (g_rd N n) N d (nI (cmap o)) σ1 = _ := e3
    have c3 : (cf3 (g_rd N n) N d (nI (cmap o)) σ1).1 = 0 := by rw [e3]
    obtain ⟨f1, f2⟩ := ft_of (E := E) (σ := (cf2 (g_rd N n) N d (nI (cmap o)) σ1).2) (c := 1) (x := 1) (y := (cf2 (g_rd N n) N d (nI (cmap o)) σ1).2.1 3 3) (by decide) (by decide) sAl rfl hT5.2.2.2.2.2.2.1 fl hT5.2.2.2.2.2.2.2.2.2.1
    refine ⟨⟨hp1, hP1, fun _ => ⟨⟨nz1, by rw [er1]; exact hl⟩, pe1, ps1, fun y => absurd c3 y⟩⟩, Or.inl ?_⟩
    unfold cfR
    rw [if_neg g1n, if_pos c3, e3]
    have hc : Lt ≤ 399 := by
      clear th1 th2 sg1 sg2 f1 f2 fl ck
      omega
    have hb : jj + 1 + 2 * s ≤ 2100 := by
      clear th1 th2 sg1 sg2 f1 f2 fl ck
      omega
    exact ⟨rfl, jj + 1, _, hb, b5.tr rn, ⟨f1, ft_L v2' fl hc⟩, rc_ref fC2, fM5.nn.tr f2⟩
/-- a formula -/
theorem sim_form {n : Nat} (hS1 : GL E N n 1 1 0 4) (hF : GL E N n 0 1 0 5) (hN : 200000 < N) : GL E N (n + 1) 0 1 0 5 := by
  intro s e kd v w u K H Lc wt d sg h W σ τ p1 p2 p3 p4 p5 p6 p7 p8 p9 p10 p11 p12 p13 p14 p15
  have sg0 := p5 rfl
  subst sg0
  by_cases kk : kd = 320
  · rcases sim_if1 (H := H) (h := h) hS1 p1 hN p6 p7 p9 (by omega) p11 (by omega) p13 p14 (by omega) kk with y | ⟨htm, d5, σ1, o, o9, o11, c1, c2, c3, c4, c5, s1, e1, kd1, v1, w1, u1, K1, H1, Lc1, jj, τ1, hg⟩
    · exact ⟨y.1, Or.inl y.2⟩
    · obtain ⟨x1, x2⟩ := sim_if2 hF hN d5 (by omega) (by omega) p13 (by omega) p14 (by omega) o9 o11 c3 c4 c5 hg
      refine ⟨c1 x1, ?_⟩
      rw [c2]
      exact x2.elim Or.inl (fun y => Or.inr ⟨htm, y⟩)
  · obtain ⟨g1, g2⟩ := hS1 s e kd v w u K H Lc wt d 0 h W σ τ p1 p2 p3 p4 (fun _ => rfl) p6 p7 (fun y => ⟨Or.inr kk, (p8 y).2⟩) p9 p10 p11 p12 p13 p14 (by omega)
    have hT := p1.2.1
    have hkd := hT.kd
    have n320 : ¬ σ.1 3 2 = 320 := by
      rw [hT.2.2.2.2.2.1]
      exact fun y => kk ((nI_eq (b := 320) (by omega) (by decide)).mp y)
    have h01 : (g_rd N n 1 (nI d) 0 σ).1 = 0 ∨ (g_rd N n 1 (nI d) 0 σ).1 = 1 := by
      rcases g2 with y | y
      · exact Or.inl y.1
      · exact Or.inr y.2.1
    obtain ⟨x1, x2⟩ := (cf_r (N := N) (σ := σ) (P := h_rd N n) (G := g_rd N n) (d := d) (by omega) (by omega)).1 n320 g1 h01
    have x2 : g_rd N (n + 1) 0 (nI d) 0 σ = g_rd N n 1 (nI d) 0 σ := x2
    refine ⟨x1, ?_⟩
    rw [x2]
    exact g2
end IS
