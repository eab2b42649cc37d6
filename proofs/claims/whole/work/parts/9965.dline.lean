/-! the line of a function: its head -/
section IS
variable {N nb q b : Nat} {tx : Nat → Nat} {σ σ1 σ2 τ τ1 τ2 : zS} {K K1 : aK} {H H1 : Nat → Nat}
theorem ln_def {m s e kd v w nf L u : Nat} {fa fl : Nat → Nat} (h : LNb nb tx q b m s e kd v w σ τ) (kk : kd = 314) (hL : LFn nb q b nf fa fl K H L u σ τ) (h26 : σ.1 2 6 = -1) (hN : 200000 < N) : p_X3_readFunction N σ ∧ p_X9_readLine (nI b) N τ ∧ p_X9_need 59 N (s_X9_readLine (nI b) N τ) ∧ DLR nb tx q b m e nf (r_X3_readFunction N σ) σ τ (s_X9_need 59 N (s_X9_readLine (nI b) N τ)) := by
  have n10 : ¬ (1 : Int32) = 0 := by decide
  have h0 := h
  obtain ⟨hF, ⟨h6, h76⟩, hu, hC, hM, hLu, hfn, hwf⟩ := hL
  obtain ⟨sl, h33, h21⟩ := h.s1
  obtain ⟨a1, a2, ⟨qq, q3, b2⟩, hT, h25, -, -⟩ := h
  have er : σ.2 2 1 - 1 = q := by rw [qq]; rfl
  have nz : σ.2 2 1 ≠ 0 := by rw [qq]; omega
  have hl := ly_q q3
  have cb : (nI b).toNatClampNeg = b := nI_clamp (by omega)
  have vb : vp_in (nI b) 2 := vp_in_nI b2 (by decide)
  have z0 : (0 : Int32) ≤ 0 := by decide
  have nf6 := hF.1
  have w0 : f_X9_isWord 0 τ = if kd = 310 + 0 then 1 else 0 := rk_word (c := 0) hT h25 (by decide)
  have w1 : f_X9_isWord 1 τ = if kd = 310 + 1 then 1 else 0 := rk_word (c := 1) hT h25 (by decide)
  have w2 : f_X9_isWord 2 τ = if kd = 310 + 2 then 1 else 0 := rk_word (c := 2) hT h25 (by decide)
  have w3 : f_X9_isWord 3 τ = if kd = 310 + 3 then 1 else 0 := rk_word (c := 3) hT h25 (by decide)
  have w4 : f_X9_isWord 4 τ = if kd = 310 + 4 then 1 else 0 := rk_word (c := 4) hT h25 (by decide)
  rw [if_neg (by omega)] at w0 w1 w2 w3
  rw [if_pos kk] at w4
  have eL : s_X9_readLine (nI b) N τ = s_X9_readDef (nI b) N τ := by
    unfold s_X9_readLine
    rw [w0, w1, w2, w3, w4, if_pos rfl, if_pos rfl, if_pos rfl, if_pos rfl, if_neg n10]
    rfl
  have pL : p_X9_readDef (nI b) N τ → p_X9_readLine (nI b) N τ := fun y => by
    unfold p_X9_readLine
    rw [w0, w1, w2, w3, w4]
    exact ⟨fun _ => ⟨fun _ => ⟨fun _ => ⟨fun _ => ⟨fun z => absurd z n10, fun _ => y⟩, fun z => absurd rfl z⟩, fun z => absurd rfl z⟩, fun z => absurd rfl z⟩, fun z => absurd rfl z⟩
  rw [eL]
  have wc : ∀ {ρ ρ1 : zS}, rfr (sZ q (fun _ => False)) ρ ρ1 → rfr (sDc q) ρ ρ1 := fun g => g.wk (fun Q j y => y.elim Or.inl (fun y => y.elim (fun y => Or.inr (Or.inl ⟨y.1, by omega, by omega⟩)) (fun y => absurd y.2.2 (fun z => z))))
  have fm : ∀ {c : Nat} {ρ ρ1 : zS}, FLm c ρ ρ1 → rfr (sDm b) ρ ρ1 := fun g => by
    unfold FLm at g
    rw [g]
    exact (rfr.rf.uI (Or.inl ⟨rfl, by omega⟩)).uI (Or.inl ⟨rfl, by omega⟩)
  have wt : ∀ {ρ ρ1 : zS}, rfr sTM ρ ρ1 → rfr (sDm b) ρ ρ1 := fun g => g.wk (fun Q j y => Or.inl ⟨y.1, Or.inl ⟨y.2.1, by have := y.2.2; omega⟩⟩)
  obtain ⟨N1, hN1⟩ : ∃ z, N = z + 20 + 1 + 1 := ⟨N - 22, by omega⟩
  by_cases c6 : nf = 6
  · have lt : ¬ σ.1 q 6 < 6 := by rw [h6, c6]; decide
    have e6 : τ.1 476 b = 6 := by rw [h76, c6]; rfl
    have fl5 : FLm 5 τ (s_X9_fail (nI 5) τ) := rf_fail h25
    obtain ⟨f1, f2, -⟩ := ft2 (q := q) (b := b) (Z := fun _ => False) (c := 5) (σ := σ) (by decide) (by decide) sl h33 fl5 h21
    have nf5 : ¬ (s_X9_fail (nI 5) τ).1 468 25 ≤ 0 := by rw [rf_fail h25, gI_n (by omega), gI_h rfl rfl]; decide
    have l0 : l_X9_readDef N (N1 + 20 + 1 + 1) 0 (nI b) 0 (s_X9_fail (nI 5) τ) = s_X9_fail (nI 5) τ ∧ q_X9_readDef N (N1 + 20 + 1 + 1) 0 (nI b) 0 (s_X9_fail (nI 5) τ) := by
      rw [l_X9_readDef, q_X9_readDef, if_neg nf5]
      exact ⟨rfl, fun y => absurd y nf5⟩
    rw [← hN1] at l0
    have es : s_X9_readDef (nI b) N τ = s_X9_fail (nI 5) τ := by
      unfold s_X9_readDef
      rw [cb, if_pos e6]
      exact l0.1
    obtain ⟨cc, pp, c1, c2, c3, c4', c5, c6', c7⟩ := f1
    obtain ⟨d1, d2⟩ := rf_need_bad (N := N) (x := 59) c1 c2 c6'
    rw [es, d2]
    refine ⟨⟨⟨nz, by rw [er]; exact hl⟩, fun y => absurd (by rw [er] at y; exact y) lt⟩, pL ⟨vb, fun y => absurd (by rw [cb]; exact e6) y, fun _ => l0.2⟩, d1, Or.inl ?_⟩
    have eR : r_X3_readFunction N σ = (0, zuI (zuI σ 2 2 (nI 5)) 2 3 (σ.1 3 3)) := by
      unfold r_X3_readFunction
      rw [er, if_neg lt]
      rfl
    rw [eR]
    exact ⟨rfl, ⟨cc, pp, c1, c2, c3, c4', c5, c6', c7⟩, wc f2, fm fl5⟩
  · have lt : σ.1 q 6 < 6 := by rw [h6]; exact nI_lt (b := 6) (by omega) (by decide)
    have e6 : ¬ τ.1 476 b = 6 := by
      rw [h76]
      exact fun y => c6 ((nI_eq (b := 6) (by omega) (by decide)).mp y)
    obtain ⟨n1, n2, n3, n4', s1, e1, kd1, v1, w1', h1, h1e⟩ := st_next h0 hN
    obtain ⟨sl1, h331, h211⟩ := h1.s1
    have cN : ∀ Q j, ¬ Q = 3 → (s_X6_next N σ).1 Q j = σ.1 Q j := fun Q j y => n3.2 _ _ (fun z => y z.1)
    have mN : ∀ Q j, ¬ (Q = 468 ∧ 20 ≤ j ∧ j ≤ 24) → (s_X9_scan N τ).1 Q j = τ.1 Q j := n4'.2
    have hT1 := h1.2.2.2.1
    have h251 := h1.2.2.2.2.1
    have hkd1 := hT1.kd
    have hnm : f_X9_isName (s_X9_scan N τ) = if kd1 = 303 then 1 else 0 := rk_name hT1 h251
    have ev1 : u_X9_readDef_h0_1 N (nI b) 0 τ = s_X9_scan N τ := rfl
    have eu1 : u_X3_readFunction_1 N σ = s_X6_next N σ := rfl
    have es : s_X9_readDef (nI b) N τ = l_X9_readDef N N 0 (nI b) 0 τ := by
      unfold s_X9_readDef
      rw [cb, if_neg e6]
    have pS : q_X9_readDef N N 0 (nI b) 0 τ → p_X9_readDef (nI b) N τ := fun y => ⟨vb, fun _ => y, fun z => absurd (by rw [cb] at z; exact z) e6⟩
    have f12 : rfr (sDc q) σ (s_X6_next N σ) := wc (rfr.zc n3)
    have m12 : rfr (sDm b) τ (s_X9_scan N τ) := wt n4'
    rw [es]
    have h1b : ∀ (c y : Nat), 1 ≤ c → c ≤ 5 → q_X9_readDef N (y + 1) 1 (nI b) 0 (s_X9_fail (nI c) (s_X9_scan N τ)) ∧ l_X9_readDef N (y + 1) 1 (nI b) 0 (s_X9_fail (nI c) (s_X9_scan N τ)) = s_X9_fail (nI c) (s_X9_scan N τ) := fun c y c1 c5 => by
      have nf5 : ¬ (s_X9_fail (nI c) (s_X9_scan N τ)).1 468 25 ≤ 0 := by
        rw [rf_fail h251, gI_n (by omega), gI_h rfl rfl]
        exact nI_nle (by omega) (by omega)
      rw [q_X9_readDef, l_X9_readDef, if_neg nf5]
      exact ⟨fun y => absurd y nf5, rfl⟩
    have bad : ∀ c, 1 ≤ c → c ≤ 5 → l_X9_readDef N N 0 (nI b) 0 τ = s_X9_fail (nI c) (s_X9_scan N τ) → q_X9_readDef N N 0 (nI b) 0 τ → r_X3_readNewName N (s_X6_next N σ) = (0, zuI (zuI (s_X6_next N σ) 2 2 (nI c)) 2 3 ((s_X6_next N σ).1 3 3)) → p_X3_readNewName N (s_X6_next N σ) → p_X3_readFunction N σ ∧ p_X9_readLine (nI b) N τ ∧ p_X9_need 59 N (l_X9_readDef N N 0 (nI b) 0 τ) ∧ DLR nb tx q b m e nf (r_X3_readFunction N σ) σ τ (s_X9_need 59 N (l_X9_readDef N N 0 (nI b) 0 τ)) := fun c c1 c5 y1 y2 y3 y4 => by
      have fl1 : FLm c (s_X9_scan N τ) (s_X9_fail (nI c) (s_X9_scan N τ)) := rf_fail h251
      obtain ⟨f1, f2, -⟩ := ft2 (q := q) (b := b) (Z := fun _ => False) (c := c) (σ := s_X6_next N σ) c1 c5 sl1 h331 fl1 h211
      obtain ⟨cc, pp, c1', c2, c3, c4', c5', c6'', c7⟩ := f1
      obtain ⟨d1, d2⟩ := rf_need_bad (N := N) (x := 59) c1' c2 c6''
      have y3z : (r_X3_readNewName N (u_X3_readFunction_1 N σ)).1 = 0 := by rw [eu1, y3]
      have eR : r_X3_readFunction N σ = (0, zuI (zuI (s_X6_next N σ) 2 2 (nI c)) 2 3 ((s_X6_next N σ).1 3 3)) := by
        unfold r_X3_readFunction u_X3_readFunction_2
        rw [er, if_pos lt, if_pos y3z, eu1, y3]
      rw [y1, d2, eR]
      exact ⟨⟨⟨nz, by rw [er]; exact hl⟩, fun _ => ⟨n1, y4, fun z => absurd y3z z⟩⟩, pL (pS y2), d1, Or.inl ⟨rfl, ⟨cc, pp, c1', c2, c3, c4', c5', c6'', c7⟩, f12.tr (wc f2), m12.tr (fm fl1)⟩⟩
    by_cases k1 : kd1 = 303
    · have hk1 : (s_X6_next N σ).1 3 2 = 303 := by rw [hT1.2.2.2.2.2.1, k1]; rfl
      rw [if_pos k1] at hnm
      have nnm : ¬ f_X9_isName (s_X9_scan N τ) = 0 := by rw [hnm]; exact n10
      have hF1 : NmF nb nf fa fl (s_X6_next N σ) (s_X9_scan N τ) := ⟨hF.1, fun i hi => by
        obtain ⟨x0, x1, x2, x3, x4⟩ := hF.2 i hi
        exact ⟨x0, (cN _ _ (by omega)).trans x1, (cN _ _ (by omega)).trans x2, (mN _ _ (by omega)).trans x3, (mN _ _ (by omega)).trans x4⟩⟩
      have h34 : (s_X6_next N σ).1 3 4 = nI e1 := hT1.2.2.2.2.2.2.2.1
      have h201 := hT1.2.2.2.2.2.2.2.2.2.2.1
      obtain ⟨p1, p2, p3⟩ := pr_fname (N := N) (s := s1) (e := e1) h1.1 h1.2.1 hF1 h1.2.2.1.1 hl ((cN _ _ (by omega)).trans h6) h211 h201 hT1.1 hT1.2.1 (by omega)
      rw [← h331, ← h34] at p1 p3
      have e476 : (s_X9_scan N τ).1 476 b = nI nf := (mN _ _ (by omega)).trans h76
      rcases p3 with ⟨z1, z2⟩ | ⟨f, fn, z1, z2⟩
      · -- a new name
        have hq1 : (s_X6_next N σ).2 2 1 = q + 1 := h1.2.2.1.1
        have er1 : (s_X6_next N σ).2 2 1 - 1 = q := by rw [hq1]; rfl
        have nz1 : (s_X6_next N σ).2 2 1 ≠ 0 := by rw [hq1]; omega
        have l9 : (s_X6_next N σ).1 q 9 = nI L := (cN _ _ (by omega)).trans hC.2
        generalize hσa : zuI (zuI (zuI (zuI (s_X6_next N σ) 12 nf (nI s1)) 13 nf (nI e1)) (q + 1) nf (nI L)) q 6 (nI (nf + 1)) = σa
        have e1' : u_X3_readNewName_1 N (s_X6_next N σ) = zuI (s_X6_next N σ) 12 nf (nI s1) := by
          unfold u_X3_readNewName_1
          rw [er1, cN _ _ (by omega), h6, h331, put_i (by omega) (by decide)]
        have e2' : u_X3_readNewName_2 N (s_X6_next N σ) = zuI (zuI (s_X6_next N σ) 12 nf (nI s1)) 13 nf (nI e1) := by
          unfold u_X3_readNewName_2
          rw [e1']
          show s_X8_put 6 13 ((zuI (s_X6_next N σ) 12 nf (nI s1)).1 ((s_X6_next N σ).2 2 1 - 1) 6) ((zuI (s_X6_next N σ) 12 nf (nI s1)).1 3 4) (zuI (s_X6_next N σ) 12 nf (nI s1)) = _
          rw [er1, gI_n (by omega), cN _ _ (by omega), h6, gI_n (by omega), h34, put_i (by omega) (by decide)]
        have e3' : u_X3_readNewName_3 N (s_X6_next N σ) = zuI (zuI (zuI (s_X6_next N σ) 12 nf (nI s1)) 13 nf (nI e1)) (q + 1) nf (nI L) := by
          unfold u_X3_readNewName_3
          rw [e2']
          show s_X8_put 6 (((s_X6_next N σ).2 2 1 - 1) + 1) ((zuI (zuI (s_X6_next N σ) 12 nf (nI s1)) 13 nf (nI e1)).1 ((s_X6_next N σ).2 2 1 - 1) 6) ((zuI (zuI (s_X6_next N σ) 12 nf (nI s1)) 13 nf (nI e1)).1 ((s_X6_next N σ).2 2 1 - 1) 9) (zuI (zuI (s_X6_next N σ) 12 nf (nI s1)) 13 nf (nI e1)) = _
          rw [er1, gI_n (by omega), gI_n (by omega), cN _ _ (by omega), h6, gI_n (by omega), gI_n (by omega), l9, put_i (by omega) (by decide)]
        have e4' : u_X3_readNewName_4 N (s_X6_next N σ) = σa := by
          unfold u_X3_readNewName_4
          rw [e3']
          show zuI (zuI (zuI (zuI (s_X6_next N σ) 12 nf (nI s1)) 13 nf (nI e1)) (q + 1) nf (nI L)) ((s_X6_next N σ).2 2 1 - 1) 6 ((zuI (zuI (zuI (s_X6_next N σ) 12 nf (nI s1)) 13 nf (nI e1)) (q + 1) nf (nI L)).1 ((s_X6_next N σ).2 2 1 - 1) 6 + 1) = _
          rw [er1, gI_n (by omega), gI_n (by omega), gI_n (by omega), cN _ _ (by omega), h6, nI_1, hσa]
        have oσ : ∀ Q j, ¬ ((Q = 12 ∧ j = nf) ∨ (Q = 13 ∧ j = nf) ∨ (Q = q + 1 ∧ j = nf) ∨ (Q = q ∧ j = 6)) → σa.1 Q j = (s_X6_next N σ).1 Q j := fun Q j y => by rw [← hσa, gI_n (by omega), gI_n (by omega), gI_n (by omega), gI_n (by omega)]
        obtain ⟨kp, ke⟩ := rf_kname (k := nf) h211 h201 hT1.1 (by omega)
        generalize hτa : zuI (zuI (s_X9_scan N τ) 487 nf (nI s1)) 488 nf (nI (e1 - s1)) = τa at ke
        have oτ : ∀ Q j, ¬ ((Q = 487 ∨ Q = 488) ∧ j = nf) → τa.1 Q j = (s_X9_scan N τ).1 Q j := fun Q j y => by rw [← hτa, gI_n (by omega), gI_n (by omega)]
        have ha : LNb nb tx q b m s1 e1 kd1 v1 w1' σa τa := h1.eq (fun Q j y => oσ _ _ (by omega)) (by rw [← hσa]; rfl) (fun Q j y => oτ _ _ (by omega))
        obtain ⟨i1, i2, i3, i4, s2, e2, kd2, v2, w2', h2, h2e⟩ := st_next ha hN
        generalize hσb : zuI (s_X6_next N σa) 2 7 0 = σb
        generalize hτb : zuI (s_X9_scan N τa) 468 32 0 = τb
        have cB : ∀ Q j, ¬ Q = 3 → ¬ (Q = 2 ∧ j = 7) → σb.1 Q j = σa.1 Q j := fun Q j y1 y2 => by rw [← hσb, gI_n y2, i3.2 _ _ (fun z => y1 z.1)]
        have tB : ∀ Q j, ¬ (Q = 468 ∧ ((20 ≤ j ∧ j ≤ 24) ∨ j = 32)) → τb.1 Q j = τa.1 Q j := fun Q j y => by rw [← hτb, gI_n (by omega), i4.2 _ _ (fun z => by unfold sTM at z; omega)]
        have cS : ∀ Q j, ¬ Q = 3 → ¬ (Q = 2 ∧ j = 7) → ¬ ((Q = 12 ∧ j = nf) ∨ (Q = 13 ∧ j = nf) ∨ (Q = q + 1 ∧ j = nf) ∨ (Q = q ∧ j = 6)) → σb.1 Q j = σ.1 Q j := fun Q j y1 y2 y3 => by rw [cB _ _ y1 y2, oσ _ _ y3, cN _ _ y1]
        have tS : ∀ Q j, ¬ (Q = 468 ∧ ((20 ≤ j ∧ j ≤ 24) ∨ j = 32)) → ¬ ((Q = 487 ∨ Q = 488) ∧ j = nf) → τb.1 Q j = τ.1 Q j := fun Q j y1 y2 => by rw [tB _ _ y1, oτ _ _ y2, mN _ _ (by omega)]
        have hb : LNb nb tx q b m s2 e2 kd2 v2 w2' σb τb := h2.eq (fun Q j y => by rw [← hσb, gI_n (by omega)]) (by rw [← hσb]; rfl) (fun Q j y => by rw [← hτb, gI_n (by omega)])
        have hFb : NmF nb (nf + 1) (fun i => if i = nf then s1 else fa i) (fun i => if i = nf then e1 - s1 else fl i) σb τb := ⟨by omega, fun i hi => by
          dsimp only
          have hse1 := hT1.1
          have hen1 := hT1.2.1
          by_cases ci : i = nf
          · rw [if_pos ci, if_pos ci, ci, show s1 + (e1 - s1) = e1 by omega]
            refine ⟨hen1, ?_, ?_, ?_, ?_⟩
            · rw [cB _ _ (by omega) (by omega), ← hσa, gI_n (by omega), gI_n (by omega), gI_n (by omega)]; exact gI_h rfl rfl
            · rw [cB _ _ (by omega) (by omega), ← hσa, gI_n (by omega), gI_n (by omega)]; exact gI_h rfl rfl
            · rw [tB _ _ (by omega), ← hτa, gI_n (by omega)]; exact gI_h rfl rfl
            · rw [tB _ _ (by omega), ← hτa]; exact gI_h rfl rfl
          · rw [if_neg ci, if_neg ci]
            obtain ⟨x0, x1, x2, x3, x4⟩ := hF.2 i (by omega)
            exact ⟨x0, by rw [cS _ _ (by omega) (by omega) (by omega)]; exact x1, by rw [cS _ _ (by omega) (by omega) (by omega)]; exact x2, by rw [tS _ _ (by omega) (by omega)]; exact x3, by rw [tS _ _ (by omega) (by omega)]; exact x4⟩⟩
        have h6b : σb.1 q 6 = nI (nf + 1) := by rw [cB _ _ (by omega) (by omega), ← hσa]; exact gI_h rfl rfl
        have fb : rfr (sDc q) σ σb := ⟨by rw [← hσb]; show (s_X6_next N σa).2 = σ.2; rw [i3.1, ← hσa]; exact n3.1, fun Q j y => by
          by_cases y3 : Q = 3
          · subst y3
            rw [← hσb, gI_n (by omega), i3.2 _ _ (fun z => y (Or.inl ⟨rfl, z.2⟩)), oσ _ _ (by omega), n3.2 _ _ (fun z => y (Or.inl ⟨rfl, z.2⟩))]
          · exact cS Q j y3 (fun z => y (by unfold sDc; omega)) (fun z => y (by unfold sDc; omega))⟩
        have gb : rfr (sDm b) τ τb := ⟨by rw [← hτb]; show (s_X9_scan N τa).2 = τ.2; rw [i4.1, ← hτa]; exact n4'.1, fun Q j y => tS Q j (fun z => y (by unfold sDm; omega)) (fun z => y (by unfold sDm; omega))⟩
        have wPc : ∀ {ρ ρ1 : zS}, rfr sPc ρ ρ1 → rfr (sDc q) ρ ρ1 := fun g => g.wk (fun Q j y => by unfold sPc at y; unfold sDc; omega)
        have wPm : ∀ {ρ ρ1 : zS}, rfr sPm ρ ρ1 → rfr (sDm b) ρ ρ1 := fun g => g.wk (fun Q j y => by
          rcases y with y | y
          · exact Or.inl ⟨y.1, by omega⟩
          · exact Or.inr (Or.inr (Or.inr (Or.inr (Or.inr ⟨by omega, by omega⟩)))))
        -- the class's name
        have eN : r_X3_readNewName N (s_X6_next N σ) = (1, s_X6_next N σa) := by
          unfold r_X3_readNewName
          rw [if_pos hk1, z1, if_pos rfl]
          unfold u_X3_readNewName_5
          rw [e4']
        have pN : p_X3_readNewName N (s_X6_next N σ) := by
          intro _
          refine ⟨p1, fun _ => ⟨⟨nz1, by rw [er1]; exact hl⟩, put_p (by decide), ?_⟩⟩
          rw [e1', e2', e3', e4']
          exact ⟨⟨nz1, by show zlay ((s_X6_next N σ).2 2 1 - 1) = (2, 16); rw [er1]; exact hl⟩, put_p (by decide), ⟨nz1, by show zlay ((s_X6_next N σ).2 2 1 - 1) = (2, 16); rw [er1]; exact hl⟩, put_p (by decide), ⟨nz1, by show zlay ((s_X6_next N σ).2 2 1 - 1) = (2, 16); rw [er1]; exact hl⟩, i1⟩
        have eu2 : u_X3_readFunction_2 N σ = s_X6_next N σa := by
          unfold u_X3_readFunction_2
          rw [eu1, eN]
        have eNn : ¬ (r_X3_readNewName N (u_X3_readFunction_1 N σ)).1 = 0 := by rw [eu1, eN]; exact n10
        have eR3 : r_X3_readParameters N (u_X3_readFunction_2 N σ) = l_X3_readParameters N N 0 σb := by
          unfold r_X3_readParameters u_X3_readParameters_1
          rw [eu2, hσb]
        have eP3 : q_X3_readParameters N N 0 σb → p_X3_readParameters N (u_X3_readFunction_2 N σ) := fun y => by
          unfold p_X3_readParameters u_X3_readParameters_1
          rw [eu2, hσb]
          exact y
        -- the reference: to its names
        have eh13 : u_X9_readDef_h1_3 N (nI b) 0 (s_X9_scan N τ) = τb := by
          unfold u_X9_readDef_h1_3 u_X9_readDef_h1_2 u_X9_readDef_h1_1
          rw [cb, e476, ke, hτb]
        have eh11 : u_X9_readDef_h1_1 N (nI b) 0 (s_X9_scan N τ) = τa := by
          unfold u_X9_readDef_h1_1
          rw [cb, e476, ke]
        have lD : l_X9_readDef N N 0 (nI b) 0 τ = l_X9_readDef N (N1 + 20) 2 (nI b) (nI nf) τb := by
          have : l_X9_readDef N (N1 + 20 + 1 + 1) 0 (nI b) 0 τ = l_X9_readDef N (N1 + 20) 2 (nI b) (nI nf) τb := by
            rw [l_X9_readDef, h25, if_pos z0, ev1, if_neg nnm, cb, e476, z2, if_pos (by decide), l_X9_readDef, h251, if_pos z0, cb, e476, eh13]
          rw [← hN1] at this
          exact this
        have qD : q_X9_readDef N (N1 + 20) 2 (nI b) (nI nf) τb → q_X9_readDef N N 0 (nI b) 0 τ := fun y => by
          have q1 : q_X9_readDef N (N1 + 20 + 1) 1 (nI b) 0 (s_X9_scan N τ) := by
            rw [q_X9_readDef, eh11, eh13, cb, e476]
            exact fun _ => ⟨vb, kp, i2, y⟩
          have : q_X9_readDef N (N1 + 20 + 1 + 1) 0 (nI b) 0 τ := by
            rw [q_X9_readDef, ev1, cb, e476, z2]
            exact fun _ => ⟨n2, fun _ => ⟨vb, p2, fun _ => q1, fun z => absurd (by decide) z⟩, fun z => absurd z nnm⟩
          rw [← hN1] at this
          exact this
        rw [lD]
        obtain ⟨z, hz⟩ : ∃ z, N = z + 4 + 1 := ⟨N - 5, by omega⟩
        rcases pm_loop (m := m) (nf := nf) (by omega) hN 4 0 s2 e2 kd2 v2 w2' (fun _ => 0) (fun _ => 0) σb τb rfl hb hFb ⟨by omega, fun i hi => by omega⟩ (by rw [← hσb]; exact gI_h rfl rfl) (by rw [← hτb]; exact gI_h rfl rfl) h6b with y | ⟨np1, pa1, pl1, σ5, τ5, s5, e5, kd5, v5, w5, b1, b2', b3, b4, b5, b6, b7, b8, b9, b10, b11, b12⟩
        · obtain ⟨c, τf, c1, c5, y1, y2, y3, y4, y5, y6⟩ := y z
          rw [← hz] at y1 y2 y3 y4
          obtain ⟨g1, g2⟩ := y6 (N1 + 20) (by omega)
          obtain ⟨cc, pp, d1, d2, d3, d4, d5, d6, d7⟩ := y3
          obtain ⟨x1, x2⟩ := rf_need_bad (N := N) (x := 59) d1 d2 d6
          have y2' : (r_X3_readParameters N (u_X3_readFunction_2 N σ)).1 = 0 := by rw [eR3]; exact y2
          have eR : r_X3_readFunction N σ = (0, (l_X3_readParameters N N 0 σb).2) := by
            unfold r_X3_readFunction u_X3_readFunction_3
            rw [er, if_pos lt, if_neg eNn, if_pos y2', eR3]
          rw [g2, x2, eR]
          exact ⟨⟨⟨nz, by rw [er]; exact hl⟩, fun _ => ⟨n1, pN, fun _ => ⟨eP3 y1, fun z => absurd y2' z⟩⟩⟩, pL (pS (qD g1)), x1, Or.inl ⟨rfl, ⟨cc, pp, d1, d2, d3, d4, d5, d6, d7⟩, fb.tr (wPc y4), gb.tr (wPm y5)⟩⟩
        · obtain ⟨x1, x2⟩ := b11 z
          rw [← hz] at x1 x2
          have x2 : l_X3_readParameters N N 0 σb = (1, zuI σ5 (q + 2) nf (nI np1)) := x2
          obtain ⟨g1, g2⟩ := b12 (N1 + 20) (by omega)
          have c5 : ∀ Q j, ¬ sPc Q j → σ5.1 Q j = σb.1 Q j := b8.2
          have t5 : ∀ Q j, ¬ sPm Q j → τ5.1 Q j = τb.1 Q j := b9.2
          have c5S : ∀ Q j, ¬ sPc Q j → ¬ Q = 3 → ¬ (Q = 2 ∧ j = 7) → ¬ ((Q = 12 ∧ j = nf) ∨ (Q = 13 ∧ j = nf) ∨ (Q = q + 1 ∧ j = nf) ∨ (Q = q ∧ j = 6)) → σ5.1 Q j = σ.1 Q j := fun Q j y0 y1 y2 y3 => (c5 Q j y0).trans (cS Q j y1 y2 y3)
          have t5S : ∀ Q j, ¬ sPm Q j → ¬ Q = 468 → ¬ ((Q = 487 ∨ Q = 488) ∧ j = nf) → τ5.1 Q j = τ.1 Q j := fun Q j y0 y1 y2 => (t5 Q j y0).trans (tS Q j (fun z => y1 z.1) y2)
          have npc : ∀ Q j, 16 ≤ Q → ¬ sPc Q j := fun Q j y z => by unfold sPc at z; omega
          have npm : ∀ Q j, 470 ≤ Q → Q ≤ 486 → ¬ sPm Q j := fun Q j y1 y2 z => by unfold sPm at z; omega
          obtain ⟨t1, t2, t3, t4, t6⟩ := df_tail (K := K) (H := H) (L := L) (u := u) b3 (show nf < 6 by omega) b1 b4 b5 b6 b7 (by rw [c5 _ _ (npc _ _ (by omega))]; exact h6b) (by rw [t5S _ _ (npm _ _ (by omega) (by omega)) (by omega) (by omega)]; exact h76) ⟨by rw [c5S _ _ (npc _ _ (by omega)) (by omega) (by omega) (by omega)]; exact hu.1, by rw [t5S _ _ (npm _ _ (by omega) (by omega)) (by omega) (by omega)]; exact hu.2.1, hu.2.2⟩ (hC.eq (fun Q j y => c5S _ _ (npc _ _ (by omega)) (by omega) (by omega) (by omega))) (hM.eq (fun Q j y => t5S _ _ (npm _ _ (by omega) (by omega)) (by omega) (by omega))) hLu (by rw [c5 _ _ (npc _ _ (by omega)), cB _ _ (by omega) (by omega), ← hσa, gI_n (by omega)]; exact gI_h rfl rfl) (fun f hf => by
            obtain ⟨r1, r2, r3, r4, r5, r6, r7⟩ := hfn f hf
            exact ⟨r1, r2, r3, by rw [c5S _ _ (npc _ _ (by omega)) (by omega) (by omega) (by omega)]; exact r4, by rw [t5S _ _ (npm _ _ (by omega) (by omega)) (by omega) (by omega)]; exact r5, by rw [c5S _ _ (npc _ _ (by omega)) (by omega) (by omega) (by omega)]; exact r6, by rw [t5S _ _ (npm _ _ (by omega) (by omega)) (by omega) (by omega)]; exact r7⟩) hwf (by rw [c5S _ _ (fun z => by unfold sPc at z; omega) (by omega) (by omega) (by omega)]; exact h26) hN _ rfl _ rfl
          have x2n : ¬ (r_X3_readParameters N (u_X3_readFunction_2 N σ)).1 = 0 := by rw [eR3, x2]; exact n10
          have eu3 : u_X3_readFunction_3 N σ = zuI σ5 (q + 2) nf (nI np1) := by
            unfold u_X3_readFunction_3
            rw [eR3, x2]
          have eu4 : u_X3_readFunction_4 N σ = (r_X3_readSign 61 N (zuI σ5 (q + 2) nf (nI np1))).2 := by
            unfold u_X3_readFunction_4
            rw [eu3]
          have eu5 : u_X3_readFunction_5 N σ = (r_X3_rd 0 N (r_X3_readSign 61 N (zuI σ5 (q + 2) nf (nI np1))).2).2 := by
            unfold u_X3_readFunction_5
            rw [eu4]
          have fin : r_X3_readFunction N σ = (if (r_X3_readSign 61 N (zuI σ5 (q + 2) nf (nI np1))).1 = 0 then (0, (r_X3_readSign 61 N (zuI σ5 (q + 2) nf (nI np1))).2) else (if (r_X3_rd 0 N (r_X3_readSign 61 N (zuI σ5 (q + 2) nf (nI np1))).2).1 = 0 then (0, (r_X3_rd 0 N (r_X3_readSign 61 N (zuI σ5 (q + 2) nf (nI np1))).2).2) else r_X3_readSign 59 N (r_X2_emit q 13 0 (r_X3_rd 0 N (r_X3_readSign 61 N (zuI σ5 (q + 2) nf (nI np1))).2).2).2)) := by
            unfold r_X3_readFunction
            rw [er, if_pos lt, if_neg eNn, if_neg x2n, eu3, eu4, eu5]
            by_cases d1 : (r_X3_readSign 61 N (zuI σ5 (q + 2) nf (nI np1))).1 = 0
            · rw [if_pos d1, if_pos d1]
            · rw [if_neg d1, if_neg d1]
              by_cases d2 : (r_X3_rd 0 N (r_X3_readSign 61 N (zuI σ5 (q + 2) nf (nI np1))).2).1 = 0
              · rw [if_pos d2, if_pos d2]
              · rw [if_neg d2, if_neg d2]
                have eq5 := ((t4 d1).2 d2).1
                have e6' : u_X3_readFunction_6 N σ = (r_X2_emit q 13 0 (r_X3_rd 0 N (r_X3_readSign 61 N (zuI σ5 (q + 2) nf (nI np1))).2).2).2 := by
                  unfold u_X3_readFunction_6
                  rw [eu5, eq5, Nat.add_sub_cancel]
                unfold u_X3_readFunction_7
                rw [e6']
          rw [g1, fin]
          refine ⟨⟨⟨nz, by rw [er]; exact hl⟩, fun _ => ⟨n1, pN, fun _ => ⟨eP3 x1, fun _ => ?_⟩⟩⟩, pL (pS (qD (g2 t1))), t2, ?_⟩
          · rw [eu3, eu4]
            refine ⟨t3, fun d1 => ⟨(t4 d1).1, fun d2 => ?_⟩⟩
            obtain ⟨k1', k2', k3'⟩ := (t4 d1).2 d2
            unfold u_X3_readFunction_6
            rw [eu5, k1', Nat.add_sub_cancel]
            exact ⟨⟨by omega, hl⟩, k2', k3'⟩
          · rcases t6 with ⟨y1, y2, y3, y4⟩ | ⟨y1, y2, y3, y4, y5, s6, e6', kd6, v6, w6, y6, y7⟩
            · exact Or.inl ⟨y1, y2, (fb.tr (wPc b8)).tr y3, (gb.tr (wPm b9)).tr y4⟩
            · refine Or.inr ⟨y1, (fb.tr (wPc b8)).tr y2, (gb.tr (wPm b9)).tr y3, y4, y5, s6, e6', kd6, v6, w6, y6, ?_⟩
              have := hT1.1
              have := h2.2.2.2.1.1
              omega
      · -- the name stands already
        have np : ¬ nI f = -1 := fun y => nI_pos (n := f) (by omega) (by rw [y]; decide)
        have nl : ¬ nI f < 0 := nI_pos (by omega)
        refine bad 3 (by decide) (by decide) ?_ ?_ ?_ ?_
        · have : l_X9_readDef N (N1 + 20 + 1 + 1) 0 (nI b) 0 τ = s_X9_fail (nI 3) (s_X9_scan N τ) := by
            rw [l_X9_readDef, h25, if_pos z0, ev1, if_neg nnm, cb, e476, z2, if_neg nl]
            exact (h1b 3 _ (by decide) (by decide)).2
          rw [← hN1] at this
          exact this
        · have : q_X9_readDef N (N1 + 20 + 1 + 1) 0 (nI b) 0 τ := by
            rw [q_X9_readDef, ev1, cb, e476, z2]
            exact fun _ => ⟨n2, fun _ => ⟨vb, p2, fun z => absurd z nl, fun _ => (h1b 3 _ (by decide) (by decide)).1⟩, fun z => absurd z nnm⟩
          rw [← hN1] at this
          exact this
        · unfold r_X3_readNewName
          rw [if_pos hk1, z1, if_neg np]
          rfl
        · exact fun _ => ⟨p1, fun z => absurd (z1.symm.trans z) np⟩
    · have hk1 : ¬ (s_X6_next N σ).1 3 2 = 303 := by
        rw [hT1.2.2.2.2.2.1]
        exact fun y => k1 ((nI_eq (b := 303) (by omega) (by decide)).mp y)
      rw [if_neg k1] at hnm
      refine bad 1 (by decide) (by decide) ?_ ?_ ?_ ?_
      · have : l_X9_readDef N (N1 + 20 + 1 + 1) 0 (nI b) 0 τ = s_X9_fail (nI 1) (s_X9_scan N τ) := by
          rw [l_X9_readDef, h25, if_pos z0, ev1, if_pos hnm]
          exact (h1b 1 _ (by decide) (by decide)).2
        rw [← hN1] at this
        exact this
      · have : q_X9_readDef N (N1 + 20 + 1 + 1) 0 (nI b) 0 τ := by
          rw [q_X9_readDef, ev1]
          exact fun _ => ⟨n2, fun z => absurd hnm z, fun _ => (h1b 1 _ (by decide) (by decide)).1⟩
        rw [← hN1] at this
        exact this
      · unfold r_X3_readNewName
        rw [if_neg hk1]
        rfl
      · exact fun y => absurd y hk1
end IS
