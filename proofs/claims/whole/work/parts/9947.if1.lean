/-! IF on both sides: the two sums -/
section IS
variable {N : Nat} {E : EV} {σ σ1 σ2 τ τ1 τ2 : zS} {K K1 K2 : aK} {H H1 : Nat → Nat}
theorem bt_top {wt c : Nat} {W : Nat → Nat} (h : bnd c = 0) : bndT (wt + 1) (fun i => if i = wt then c else W i) = 0 := by
  unfold bndT
  rw [if_neg (by omega)]
  show bnd (if wt + 1 - 1 = wt then c else W (wt + 1 - 1)) = 0
  rw [if_pos (by omega)]
  exact h
theorem nt_top {wt c : Nat} {W : Nat → Nat} (h : ¬ c = 7) : ¬ (fun i => if i = wt then c else W i) (wt + 1 - 1) = 7 := by
  show ¬ (if wt + 1 - 1 = wt then c else W (wt + 1 - 1)) = 7
  rw [if_pos (by omega)]
  exact h
/-- behind both sums -/
def QA (E : EV) (wt d o : Nat) (W : Nat → Nat) (kd Lc : Nat) (K : aK) (τ : zS) : Prop := QT E (wt + 1) (d + 1) 1 1 (fun i => if i = wt then 101 else W i) kd Lc K τ ∧ τ.1 491 wt = nI o
theorem sim_if1 {n s e kd v w u Lc wt d h : Nat} {W : Nat → Nat} (hS1 : GL E N n 1 1 0 4) (hh : PS E s e kd v w u K Lc Lc wt W d 0 σ τ) (hN : 200000 < N) (hsp : SP E.b s σ τ) (hp : p_X9_isTooMany (nI E.b) τ) (hH : H Lc = h) (h5 : h ≤ 5 * d) (d6 : d ≤ 6) (hwt : wt ≤ 8 * d + 2) (hLc : Lc ≤ 4 * u) (htk : ∀ f, f < E.nf → K.2.2.2 f = E.ar f) (hms : 7 * (6 - d) + 5 ≤ n + 1) (kk : kd = 320) : (h_rd N (n + 1) 0 (nI d) 0 σ ∧ BAD E N s (g_rd N (n + 1) 0 (nI d) 0 σ) σ τ) ∨ (f_X9_isTooMany (nI E.b) τ = 0 ∧ d ≤ 5 ∧ ∃ σ1 o, 9 ≤ o ∧ o ≤ 11 ∧ (cfP (h_rd N n) (g_rd N n) N d (nI (cmap o)) σ1 → h_rd N (n + 1) 0 (nI d) 0 σ) ∧ g_rd N (n + 1) 0 (nI d) 0 σ = cfR (g_rd N n) N d (nI (cmap o)) σ1 ∧ p_X6_next N σ1 ∧ h_rd N n 1 (nI d + 1) 0 (s_X6_next N σ1) ∧ (cf1 (g_rd N n) N d σ1).1 = 1 ∧ ∃ s1 e1 kd1 v1 w1 u1 K1 H1 Lc1 jj τ1, GD E N K H Lc (h + 1) u s wt σ τ (QA E wt d o W) s1 e1 kd1 v1 w1 u1 K1 H1 Lc1 jj (cf1 (g_rd N n) N d σ1).2 τ1) := by
  obtain ⟨ro1, ro2⟩ := rf_ifo hh hN hp d6 (by omega) kk
  obtain ⟨hE, hT, ⟨hu1, hu2, u80⟩, hC, hM, hS, h38, h39, h25⟩ := hh
  have hn := hE.2.1.2.1
  have q3 := hE.2.2.2.2.1.2.1
  have hse := hT.1
  have hen := hT.2.1
  have hs1 : s ≤ 1000 := by omega
  have h33 : σ.1 3 3 = nI s := hT.2.2.2.2.2.2.1
  have h21 := hT.2.2.2.2.2.2.2.2.2.1
  have c2 : σ.1 3 2 = 320 := by rw [hT.2.2.2.2.2.1, kk]; rfl
  have n10 : ¬ (1 : Int32) = 0 := by decide
  obtain ⟨-, cr2, cr3⟩ := cf_r (N := N) (σ := σ) (P := h_rd N n) (G := g_rd N n) (d := d) (by omega) (by omega)
  by_cases ct : 5 < d ∨ ¬ f_X9_isTooMany (nI E.b) τ = 0
  · left
    obtain ⟨τf, rn, fl⟩ := ro1 ct
    obtain ⟨x1, x2⟩ := cr2 c2 (by
      rcases ct with y | y
      · exact Or.inl y
      · right
        rcases hsp with z | z
        · exact absurd z.1 y
        · rw [h33, z.2])
    have x2 : g_rd N (n + 1) 0 (nI d) 0 σ = _ := x2
    obtain ⟨f1, f2⟩ := ft_of (E := E) (σ := σ) (c := 5) (x := 5) (y := σ.1 3 3) (by decide) (by decide) hs1 rfl h33 fl h21
    refine ⟨x1, ?_⟩
    rw [x2]
    exact ⟨rfl, 1, _, by omega, rn, ⟨f1, ft_L hM fl (by omega)⟩, rc_ref rfr.rf, f2⟩
  · have htm : f_X9_isTooMany (nI E.b) τ = 0 := Classical.byContradiction fun z => ct (Or.inr z)
    have h26 := sp_no hsp htm
    have d5 : d ≤ 5 := by
      have : ¬ 5 < d := fun z => ct (Or.inl z)
      omega
    clear ct
    have ns : ¬ σ.1 3 3 = σ.1 2 6 := by
      rw [h33, h26]
      exact fun y => nI_pos (n := s) (by omega) (by rw [y]; decide)
    obtain ⟨r0, s2, e2, kd2, v2, w2, τ3, r2, r3, r4, r5, r6, r7, r8⟩ := ro2 d5 htm
    have hss : s < s2 := by
      have := hT.2.2.2.1 (by omega)
      omega
    have t39 : τ3.1 468 39 = 1 := r3.2.2.2.2.2.2.2.1
    obtain ⟨tm1, tm2⟩ := tm_s1 (x := nI E.b) t39
    obtain ⟨g1, g2⟩ := hS1 s2 e2 kd2 v2 w2 u K H Lc (wt + 1) (d + 1) 1 h (fun i => if i = wt then 100 else W i) (s_X6_next N σ) τ3 r3 (Or.inr (nt_top (by decide))) (by rw [bt_top rfl]; omega) (by omega) (fun y => absurd y (by decide)) (Or.inl ⟨tm1, r8.trans h26⟩) tm2 (fun y => absurd y (by decide)) hH (by omega) (by omega) (by omega) hLc htk (by omega)
    rw [← nI_1] at g1 g2
    obtain ⟨cr4, cr5⟩ := cr3 c2 d5 ns r0 g1
    have ec1 : g_rd N n 1 (nI d + 1) 0 (s_X6_next N σ) = cf1 (g_rd N n) N d σ := rfl
    rw [ec1] at g2
    rcases g2 with ⟨g0, jj2, τ4, x1, x2, x3, x4, x5⟩ | ⟨-, gg, s3, e3, kd3, v3, w3, u3, K3, H3, Lc3, jj2, τ4, x1, x2, ⟨x31, x32, x33⟩, x4, x5, x6, x7, x8, ⟨x91, x92⟩, ⟨y1, y2⟩, ⟨y3, y4⟩, y5, y6, y7, y8, z1⟩
    · left
      obtain ⟨w1', w2'⟩ := cr4 g0
      have w2' : g_rd N (n + 1) 0 (nI d) 0 σ = _ := w2'
      refine ⟨w1', ?_⟩
      rw [w2']
      exact ⟨rfl, 1 + jj2, τ4, by omega, r2.tr x2, x3, r4.dd.tr x4, r5.nn.tr x5⟩
    · generalize hσ1 : (cf1 (g_rd N n) N d σ).2 = σ1 at *
      obtain ⟨τ5, v1', v2', v3', v4', v5'⟩ := rf_end x1 x2 x6 x5 (bt_top rfl) (by omega) z1 hN
      have hkd := x1.kd
      have hE5 : EN E σ1 τ5 := x2.fr rfr.rf v3'.l37
      have o5 : ∀ Q jx, ¬ (sLa E.b Q jx ∨ (Q = 468 ∧ jx = 37)) → τ5.1 Q jx = τ4.1 Q jx := v3'.2
      have hT5 : TKs E.tx E.nb s3 e3 kd3 v3 w3 σ1 τ5 := x1.eq (fun _ _ _ => rfl) (fun jx _ _ => o5 _ _ (fun z => by unfold sLa at z; omega))
      have h255 : τ5.1 468 25 = 0 := (o5 _ _ (fun z => by unfold sLa at z; omega)).trans x6
      have s33 : σ1.1 3 3 = nI s3 := x1.2.2.2.2.2.2.1
      have s32 : σ1.1 3 2 = nI kd3 := x1.2.2.2.2.2.1
      have s3l : s3 ≤ 1000 := by have := x1.1; have := x1.2.1; omega
      have ne : ∀ c, c < 400 → ¬ kd3 = c → ¬ σ1.1 3 2 = nI c := fun c hc y z => by
        rw [s32] at z
        exact y ((nI_eq (by omega) (by omega)).mp z)
      obtain ⟨cr6, cr7⟩ := cr5 (by rw [gg]; exact n10)
      have fM5 : rfr (sRM E.b) τ τ5 := (r5.tr y7).tr v3'.l37
      have fC1 : rfr (sRC E.q) σ σ1 := r4.tr y6
      by_cases ck : kd3 = 60 ∨ kd3 = 62 ∨ kd3 = 61
      · obtain ⟨o, ho⟩ : ∃ o, (kd3 = 60 ∧ o = 9) ∨ (kd3 = 62 ∧ o = 10) ∨ (kd3 = 61 ∧ o = 11) := by
          rcases ck with y | y | y
          · exact ⟨9, Or.inl ⟨y, rfl⟩⟩
          · exact ⟨10, Or.inr (Or.inl ⟨y, rfl⟩)⟩
          · exact ⟨11, Or.inr (Or.inr ⟨y, rfl⟩)⟩
        obtain ⟨p1, p2, p3, s4, e4, kd4, v4, w4, p4, p5, p6, p7, p8, p9, p10⟩ := (rf_agn (o := o) hE5 hT5 h255 v1' (if_pos rfl) hN).2 ho
        have rn := v5' p3
        generalize hτ6 : s_X9_endSum (nI E.b) N τ5 = τ6 at *
        obtain ⟨z, hz⟩ : ∃ z, N = z + 1 + 1 := ⟨N - 2, by omega⟩
        obtain ⟨l1, l2⟩ := cf_l (N := N) (z := z) (d := d) (σ := σ1) (P := h_rd N n) (G := g_rd N n) ho
        rw [← hz, ← s32] at l1 l2
        obtain ⟨cr8, cr9⟩ := cr7 (by
          rcases ho with y | y | y
          · left; rw [s32, y.1]; rfl
          · right; left; rw [s32, y.1]; rfl
          · right; right; rw [s32, y.1]; rfl)
        have cr9 : g_rd N (n + 1) 0 (nI d) 0 σ = _ := cr9
        rw [l1] at cr9
        have cN : ∀ Q j, ¬ Q = 3 → (s_X6_next N σ1).1 Q j = σ1.1 Q j := fun Q j y => p2.2 _ _ (fun z => y z.1)
        have s34 : s3 < s4 := by
          have := x1.2.2.2.1 (by omega)
          omega
        obtain ⟨tm3, tm4⟩ := tm_s1 (x := nI E.b) p8
        have hps : PS E s4 e4 kd4 v4 w4 u3 K3 Lc3 Lc3 (wt + 1) (fun i => if i = wt then 101 else W i) (d + 1) 1 (s_X6_next N σ1) τ6 := by
          refine ⟨hE5.fr (rfr.tc p2) p5, p4, ⟨(cN _ _ (by omega)).trans x31, ?_, x33⟩, x4.eq (fun Q j y => cN _ _ (by omega)), v2'.eq (fun Q j y => p10 _ _ (by omega) (by omega)), p7.ww (fun i _ => ?_), ?_, p8, ?_⟩
          · rw [p10 _ _ (by omega) (by omega), o5 _ _ (fun z => by unfold sLa at z; omega)]; exact x32
          · show (if i = wt then 101 else (if i = wt then 100 else W i)) = (if i = wt then 101 else W i)
            by_cases c : i = wt
            · rw [if_pos c, if_pos c]
            · rw [if_neg c, if_neg c, if_neg c]
          · rw [p10 _ _ (by omega) (by omega)]; exact v4'
          · rw [p10 _ _ (by omega) (by omega)]; exact h255
        obtain ⟨g3, g4⟩ := hS1 s4 e4 kd4 v4 w4 u3 K3 H3 Lc3 (wt + 1) (d + 1) 1 (h + 1) (fun i => if i = wt then 101 else W i) (s_X6_next N σ1) τ6 hps (Or.inr (nt_top (by decide))) (by rw [bt_top rfl]; omega) (by omega) (fun y => absurd y (by decide)) (Or.inl ⟨tm3, (cN _ _ (by omega)).trans x7⟩) tm4 (fun y => absurd y (by decide)) x91 (by omega) (by omega) (by omega) (by omega) (fun f hf => by rw [x8.1.2]; exact htk f hf) (by omega)
        rw [← nI_1] at g3 g4
        have ec2 : g_rd N n 1 (nI d + 1) 0 (s_X6_next N σ1) = cf1 (g_rd N n) N d σ1 := rfl
        rw [ec2] at g4
        have fC2 : rfr (sRC E.q) σ (s_X6_next N σ1) := fC1.tr (rfr.tc p2)
        have fM6 : rfr (sRM E.b) τ τ6 := fM5.tr p5
        have RN : Rn N E.b (1 + jj2 + 1) τ τ6 := (r2.tr y5).tr rn
        rcases g4 with ⟨g0, jj3, τ7, a1, a2, a3, a4, a5⟩ | ⟨-, gg2, s5, e5, kd5, v5, w5, u5, K5, H5, Lc5, jj3, τ7, a1, a2, a3, a4, a5, a6, a7, a8, ⟨a91, a92⟩, ⟨b1, b2⟩, ⟨b3, b4⟩, b5, b6, b7, b8, b9⟩
        · left
          have e0 : cfR (g_rd N n) N d (nI (cmap o)) σ1 = (0, (cf1 (g_rd N n) N d σ1).2) := if_pos g0
          refine ⟨cr8 (l2 ⟨p1, g3, fun y => absurd g0 y⟩), ?_⟩
          rw [cr9, e0]
          exact ⟨rfl, 1 + jj2 + 1 + jj3, τ7, by omega, RN.tr a2, a3, fC2.dd.tr a4, fM6.nn.tr a5⟩
        · right
          refine ⟨htm, d5, σ1, o, by omega, by omega, fun y => cr8 (l2 y), cr9, p1, g3, gg2, s5, e5, kd5, v5, w5, u5, K5, H5, Lc5, 1 + jj2 + 1 + jj3, τ7, a1, a2, a3, a4, a5, a6, a7, x8.tr a8, ⟨a91, a92⟩, ⟨by omega, by omega⟩, ⟨by omega, by omega⟩, RN.tr b5, fC2.tr b6, fM6.tr b7, fun i hi => ⟨?_, ?_⟩, b9, ?_⟩
          · rw [(b8 i (by omega)).1, p10 _ _ (by omega) (by omega), o5 _ _ (fun z => by unfold sLa at z; omega), (y8 i (by omega)).1, (r7 i hi).1]
          · rw [(b8 i (by omega)).2, p10 _ _ (by omega) (by omega), o5 _ _ (fun z => by unfold sLa at z; omega), (y8 i (by omega)).2, (r7 i hi).2]
          · rw [(b8 wt (by omega)).2]
            exact p9
      · left
        have k1 : ¬ kd3 = 60 := fun y => ck (Or.inl y)
        have k2 : ¬ kd3 = 62 := fun y => ck (Or.inr (Or.inl y))
        have k3 : ¬ kd3 = 61 := fun y => ck (Or.inr (Or.inr y))
        obtain ⟨p3, fl⟩ := (rf_agn (o := 9) hE5 hT5 h255 v1' (if_pos rfl) hN).1 ⟨k1, k2, k3⟩
        have rn := v5' p3
        obtain ⟨w1', w2'⟩ := cr6 (ne 60 (by decide) k1) (ne 62 (by decide) k2) (ne 61 (by decide) k3)
        have w2' : g_rd N (n + 1) 0 (nI d) 0 σ = _ := w2'
        obtain ⟨f1, f2⟩ := ft_of (E := E) (σ := σ1) (c := 1) (x := 1) (y := σ1.1 3 3) (by decide) (by decide) s3l rfl s33 fl hT5.2.2.2.2.2.2.2.2.2.1
        refine ⟨w1', ?_⟩
        rw [w2']
        exact ⟨rfl, 1 + jj2 + 1, _, by omega, (r2.tr y5).tr rn, ⟨f1, ft_L v2' fl (by omega)⟩, rc_ref fC1, fM5.nn.tr f2⟩
end IS
