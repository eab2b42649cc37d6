/-! IF on both sides: then and else -/
section IS
variable {N : Nat} {E : EV} {σ σ1 σ2 τ τ1 τ2 : zS} {K K1 K2 : aK} {H H1 : Nat → Nat}
theorem tm_s0 {wt c : Nat} {W : Nat → Nat} {x : Int32} (hS : SKs τ (wt + 1) W) (hw : W wt = c) (hc : c < 128) (h : ¬ c = 105) : f_X9_isTooMany x τ = 0 ∧ p_X9_isTooMany x τ ∧ ¬ tpW (wt + 1) W = 105 := by
  have tp := top_at hS hw
  have n : ¬ nI c = 105 := fun y => h ((nI_eq (b := 105) (by omega) (by decide)).mp y)
  refine ⟨?_, fun _ => ⟨hS.top.1, fun y => absurd (tp.symm.trans y) n⟩, fun y => n (by rw [← tp, hS.top.2]; exact y)⟩
  unfold f_X9_isTooMany
  rw [tp, if_neg n]
  split <;> rfl
theorem sim_els {n s u Lc wt d h o s5 e5 kd5 v5 w5 uB Lt Lj jx : Nat} {W : Nat → Nat} {Ka Kb : aK} {Ha Hb : Nat → Nat} {σ6 τ8 : zS} (hF : GL E N n 0 1 0 5) (hN : 200000 < N) (d5 : d ≤ 5) (hwt : wt ≤ 8 * d + 2) (h5 : h ≤ 5 * d) (hms : 7 * (6 - d) + 5 ≤ n + 1) (o9 : 9 ≤ o) (o11 : o ≤ 11) (hLt : Lt < Lj) (h26 : h + 1 ≤ 27) (hE8 : EN E σ6 τ8) (hT8 : TKs E.tx E.nb s5 e5 kd5 v5 w5 σ6 τ8) (h258 : τ8.1 468 25 = 0) (u1' : SKs τ8 (wt + 1) (fun i => if i = wt then 102 else W i)) (u2' : MKc τ8 E.b Kb Lj) (u4' : τ8.1 468 38 = nI (d + 1)) (h90 : τ8.1 490 wt = nI Lt) (j5 : CKc σ6 E.q (seK (seK Kb Lj 12 0) Lt o (nI (Lj + 1))) (Lj + 1)) (kt : Kb.1 Lt = o) (hu : σ6.1 E.q 8 = nI uB ∧ τ8.1 478 E.b = nI uB ∧ uB ≤ 80) (x7 : σ6.1 2 6 = -1) (htk : ∀ f, f < E.nf → (seK (seK Kb Lj 12 0) Lt o (nI (Lj + 1))).2.2.2 f = E.ar f) (a8 : TS K H Lc Ka Ha Lt E.nf) (a91 : Ha Lt = h + 2) (x8 : TS (seK Ka Lt o 0) (seH Ha (Lt + 1) h) (Lt + 1) Kb Hb Lj E.nf) (x91 : Hb Lj = h + 1) (uu : u < uB) (hLu : Lj + 3 ≤ Lc + 4 * (uB - u)) (hLj : Lj + 1 ≤ 4 * uB) (ss : s < s5) (hjx : jx ≤ 2 * (s5 - s)) (RNx : p_X9_endSum (nI E.b) N τ8 → Rn N E.b jx τ (s_X9_endSum (nI E.b) N τ8)) (fC6 : rfr (sRC E.q) σ σ6) (fM8 : rfr (sRM E.b) τ τ8) (k49 : ∀ i, i < wt → τ8.1 490 i = τ.1 490 i ∧ τ8.1 491 i = τ.1 491 i) : p_X3_readSign 322 N σ6 ∧ (((r_X3_readSign 322 N σ6).1 = 0 ∧ BAD E N s (0, (r_X3_readSign 322 N σ6).2) σ τ) ∨ (¬ (r_X3_readSign 322 N σ6).1 = 0 ∧ h_rd N n 0 (nI d + 1) 0 (r_X3_readSign 322 N σ6).2 ∧ (((g_rd N n 0 (nI d + 1) 0 (r_X3_readSign 322 N σ6).2).1 = 0 ∧ BAD E N s (0, (g_rd N n 0 (nI d + 1) 0 (r_X3_readSign 322 N σ6).2).2) σ τ) ∨ ((g_rd N n 0 (nI d + 1) 0 (r_X3_readSign 322 N σ6).2).1 = 1 ∧ (g_rd N n 0 (nI d + 1) 0 (r_X3_readSign 322 N σ6).2).2.2 2 1 = E.q + 1 ∧ GOOD E N K H Lc h u s wt (1, zuI (g_rd N n 0 (nI d + 1) 0 (r_X3_readSign 322 N σ6).2).2 (E.q + 6) Lj ((g_rd N n 0 (nI d + 1) 0 (r_X3_readSign 322 N σ6).2).2.1 E.q 9)) σ τ (QT E wt d 1 1 W))))) := by
  have n10 : ¬ (1 : Int32) = 0 := by decide
  obtain ⟨x31, x32, x33⟩ := hu
  have hk5 := hT8.kd
  have hn := hE8.2.1.2.1
  have bb := hE8.2.2.2.2.1.2.2
  have q3 := hE8.2.2.2.2.1.2.1
  have s5l : s5 ≤ 1000 := by have := hT8.1; have := hT8.2.1; omega
  obtain ⟨el1, el2⟩ := rf_els (o := o) (Lt := Lt) (L := Lj) hE8 hT8 h258 u1' (if_pos rfl) h90 u2' (by omega) (by omega) kt hN
  obtain ⟨sg3, sg4⟩ := cl_sign (N := N) (c := 322) hT8.2.2.2.2.2.1 (by omega) (by decide)
  by_cases ce : kd5 = 322
  · obtain ⟨p1', p2', p3', s6, e6, kd6, v6, w6, p4', p5', p6', p7x, p8', p9', p10', p11'⟩ := el2 ce
    have RN2 := RNx p3'
    generalize hτ9 : s_X9_endSum (nI E.b) N τ8 = τ9 at *
    have e7 : r_X3_readSign 322 N σ6 = (1, s_X6_next N σ6) := sg3 ce
    rw [e7]
    refine ⟨fun _ => p1', Or.inr ⟨n10, ?_⟩⟩
    show h_rd N n 0 (nI d + 1) 0 (s_X6_next N σ6) ∧ (((g_rd N n 0 (nI d + 1) 0 (s_X6_next N σ6)).1 = 0 ∧ BAD E N s (0, (g_rd N n 0 (nI d + 1) 0 (s_X6_next N σ6)).2) σ τ) ∨ ((g_rd N n 0 (nI d + 1) 0 (s_X6_next N σ6)).1 = 1 ∧ (g_rd N n 0 (nI d + 1) 0 (s_X6_next N σ6)).2.2 2 1 = E.q + 1 ∧ GOOD E N K H Lc h u s wt (1, zuI (g_rd N n 0 (nI d + 1) 0 (s_X6_next N σ6)).2 (E.q + 6) Lj ((g_rd N n 0 (nI d + 1) 0 (s_X6_next N σ6)).2.1 E.q 9)) σ τ (QT E wt d 1 1 W)))
    have cN' : ∀ Q j, ¬ Q = 3 → (s_X6_next N σ6).1 Q j = σ6.1 Q j := fun Q j y => p2'.2 _ _ (fun z => y z.1)
    have s56 : s5 < s6 := by
      have := hT8.2.2.2.1 (by omega)
      omega
    have p7' : SKs τ9 (wt + 1) (fun i => if i = wt then 103 else W i) := p7x.ww (fun i _ => by
      show (if i = wt then 103 else (if i = wt then 102 else W i)) = (if i = wt then 103 else W i)
      by_cases c : i = wt
      · rw [if_pos c, if_pos c]
      · rw [if_neg c, if_neg c, if_neg c])
    obtain ⟨tm4, tm5, tm6⟩ := tm_s0 (x := nI E.b) p7' (if_pos rfl) (by decide) (by decide)
    have hps2 : PS E s6 e6 kd6 v6 w6 uB (seK (seK Kb Lj 12 0) Lt o (nI (Lj + 1))) (Lj + 1) (Lj + 1) (wt + 1) (fun i => if i = wt then 103 else W i) (d + 1) 0 (s_X6_next N σ6) τ9 := by
      refine ⟨hE8.fr (rfr.tc p2') p5', p4', ⟨(cN' _ _ (by omega)).trans x31, ?_, x33⟩, j5.eq (fun Q j y => cN' _ _ (by omega)), p10', p7', ?_, p8', ?_⟩
      · rw [p11' _ _ (by omega) (by omega) (fun z => by unfold sLa at z; omega)]; exact x32
      · rw [p11' _ _ (by omega) (by omega) (fun z => by unfold sLa at z; omega)]; exact u4'
      · rw [p11' _ _ (by omega) (by omega) (fun z => by unfold sLa at z; omega)]; exact h258
    obtain ⟨g5, g6⟩ := hF s6 e6 kd6 v6 w6 uB (seK (seK Kb Lj 12 0) Lt o (nI (Lj + 1))) (seH Hb (Lj + 1) h) (Lj + 1) (wt + 1) (d + 1) 0 h (fun i => if i = wt then 103 else W i) _ τ9 hps2 (Or.inr (nt_top (by decide))) (by rw [bt_top rfl]; omega) (by omega) (fun _ => rfl) (Or.inl ⟨tm4, (cN' _ _ (by omega)).trans x7⟩) tm5 (fun _ => ⟨Or.inl rfl, fun y => absurd y tm6⟩) seH_o (by omega) (by omega) (by omega) (by omega) htk (by omega)
    have ed : nI (d + 1) = nI d + 1 := by rw [nI_1]
    rw [ed] at g5 g6
    refine ⟨g5, ?_⟩
    generalize hg8 : g_rd N n 0 (nI d + 1) 0 (s_X6_next N σ6) = g8 at *
    have fC7 : rfr (sRC E.q) σ (s_X6_next N σ6) := fC6.tr (rfr.tc p2')
    have fM9 : rfr (sRM E.b) τ τ9 := fM8.tr p5'
    rcases g6 with ⟨g0, jj4, τa, h1, h2, h3, h4, h5'⟩ | ⟨-, gh, s7, e7', kd7, v7, w7, uC, Kc, Hc, Le, jj4, τa, h1, h2, ⟨h31, h32, h33⟩, h4, h5', h6, h7, h8, ⟨h91', h92⟩, ⟨i1, i2⟩, ⟨i3, i4⟩, i5, i6, i7, i8, i9⟩
    · exact Or.inl ⟨g0, rfl, jx + jj4, τa, by omega, RN2.tr h2, h3, fC7.dd.tr h4, fM9.nn.tr h5'⟩
    · right
      have lt2 := h8.2.2.1
      have kj : Kc.1 Lj = 12 := by
        rw [(h8.1.1 Lj (by omega)).1]
        have : (seK (seK Kb Lj 12 0) Lt o (nI (Lj + 1))).1 Lj = (seK Kb Lj 12 0).1 Lj := if_neg (by omega)
        rw [this, seK_o.1]
      obtain ⟨τb, k1, k2, k3, k4, k5⟩ := rf_end h1 h2 h6 h5' (bt_top rfl) (by omega) i9 hN
      have ob : ∀ Q jx, ¬ (sLa E.b Q jx ∨ (Q = 468 ∧ jx = 37)) → τb.1 Q jx = τa.1 Q jx := k3.2
      have h90' : τb.1 490 wt = nI Lj := by rw [ob _ _ (fun z => by unfold sLa at z; omega), (i8 wt (by omega)).1]; exact p9'
      obtain ⟨f1, f2, f3, f4, f5⟩ := rf_fin (E := E) (N := N) (wt := wt) (d := d) (Lj := Lj) (L := Le) bb k1 (if_pos rfl) h90' k2 (by omega) (by omega) kj k4 (by omega)
      have rn3 := k5 f1
      generalize hτc : s_X9_endSum (nI E.b) N τb = τc at *
      have oc : ∀ Q jx, ¬ (sLa E.b Q jx ∨ (Q = 468 ∧ (jx = 37 ∨ jx = 38))) → τc.1 Q jx = τb.1 Q jx := f5.2
      have occ : ∀ Q jx, ¬ (sLa E.b Q jx ∨ (Q = 468 ∧ (jx = 37 ∨ jx = 38))) → τc.1 Q jx = τa.1 Q jx := fun Q jx y => (oc Q jx y).trans (ob Q jx (fun z => y (z.elim Or.inl (fun z => Or.inr ⟨z.1, Or.inl z.2⟩))))
      have fMc : rfr (sRM E.b) τb τc := f5.wk (fun Q jx y => by
        rcases y with y | y
        · exact Or.inr (Or.inr (Or.inl y))
        · exact Or.inl ⟨y.1, Or.inr ⟨by omega, by omega⟩⟩)
      have l9 := ck_put (p := Lj) (x := nI Le) h4 kj
      rw [h4.2]
      have cE9 : ∀ Q jx, ¬ sEm E.q Q jx → (zuI g8.2 (E.q + 6) Lj (nI Le)).1 Q jx = g8.2.1 Q jx := fun Q jx y => by rw [gI_n (fun z => y (Or.inr (Or.inr z.1)))]
      have fE9 : rfr (sEm E.q) g8.2 (zuI g8.2 (E.q + 6) Lj (nI Le)) := ⟨rfl, cE9⟩
      have hts := ts_if ⟨o9, o11⟩ (by omega) a8 a91 x8 x91 h8 h91'
      refine ⟨gh, h2.2.2.2.2.1.1, rfl, s7, e7', kd7, v7, w7, uC, seK Kc Lj 12 (nI Le), Hc, Le, jx + jj4 + 1, τc, h1.eq (fun jx _ _ => cE9 _ _ (fun z => by unfold sEm at z; omega)) (fun jx _ _ => occ _ _ (fun z => by unfold sLa at z; omega)), (h2.fr (rfr.em fE9) k3.l37).fr rfr.rf fMc, ⟨(cE9 _ _ (fun z => by unfold sEm at z; omega)).trans h31, (occ _ _ (fun z => by unfold sLa at z; omega)).trans h32, h33⟩, l9, (occ _ _ (fun z => by unfold sLa at z; omega)).trans h5', (occ _ _ (fun z => by unfold sLa at z; omega)).trans h6, (cE9 _ _ (fun z => by unfold sEm at z; omega)).trans h7, hts.1, ⟨h91', h92⟩, ⟨by omega, by omega⟩, ⟨by omega, by omega⟩, (RN2.tr i5).tr rn3, (fC7.tr i6).tr (rfr.em fE9), ((fM9.tr i7).tr k3.l37).tr fMc, fun i hi => ⟨?_, ?_⟩, 0, W, by omega, by omega, f3, f2.ww (fun i hi => if_neg (by omega)), fun _ _ => rfl, fun i j1 j2 => by omega, f4, fun i hi => by omega, ?_⟩
      · rw [occ _ _ (fun z => by unfold sLa at z; omega), (i8 i (by omega)).1, p11' _ _ (by omega) (by omega) (fun z => by unfold sLa at z; omega), (k49 i hi).1]
      · rw [occ _ _ (fun z => by unfold sLa at z; omega), (i8 i (by omega)).2, p11' _ _ (by omega) (by omega) (fun z => by unfold sLa at z; omega), (k49 i hi).2]
      · obtain ⟨-, -, -, -, -, -, -, -, -, -, zz⟩ := i9
        exact zz
  · obtain ⟨p3', fl⟩ := el1 ce
    have rn2 := RNx p3'
    obtain ⟨ps2, e7⟩ := sg4 ce
    have e7 : r_X3_readSign 322 N σ6 = _ := e7
    refine ⟨ps2, Or.inl ?_⟩
    rw [e7]
    obtain ⟨f1, f2⟩ := ft_of (E := E) (σ := σ6) (c := 1) (x := 1) (y := σ6.1 3 3) (by decide) (by decide) s5l rfl hT8.2.2.2.2.2.2.1 fl hT8.2.2.2.2.2.2.2.2.2.1
    have hc : Lj ≤ 399 := by
      clear el1 el2 sg3 sg4 RNx k49 f1 f2 fl ce
      omega
    have hb : jx + 2 * s ≤ 2100 := by
      clear el1 el2 sg3 sg4 RNx k49 f1 f2 fl ce
      omega
    exact ⟨rfl, rfl, jx, _, hb, rn2, ⟨f1, ft_L u2' fl hc⟩, rc_ref fC6, fM8.nn.tr f2⟩
end IS
