/-! the next token on both sides -/
section IS
variable {nb N : Nat} {tx : Nat → Nat} {σ σ1 σ2 τ τ1 τ2 : zS}
/-- the reference's view of a token; kinds are numbered as the class does -/
def RK (tx : Nat → Nat) (nb s kd w : Nat) (τ : zS) : Prop := (kd = 300 ∧ τ.1 468 22 = 0) ∨ (kd = 301 ∧ τ.1 468 22 = 1) ∨ (kd = 302 ∧ τ.1 468 22 = 3 ∧ τ.1 468 23 = nI w) ∨ (kd = 303 ∧ τ.1 468 22 = 2 ∧ τ.1 468 24 = -1) ∨ (310 ≤ kd ∧ kd < 323 ∧ τ.1 468 22 = 2 ∧ τ.1 468 24 = nI (kd - 310)) ∨ (kd < 128 ∧ τ.1 468 22 = 4 ∧ s < nb ∧ tx s = kd)
def TKs (tx : Nat → Nat) (nb s e kd v w : Nat) (σ τ : zS) : Prop := s ≤ e ∧ e ≤ nb ∧ (kd = 300 → s = nb) ∧ (¬ kd = 300 → s < e) ∧ nRl v w ∧ σ.1 3 2 = nI kd ∧ σ.1 3 3 = nI s ∧ σ.1 3 4 = nI e ∧ (kd = 302 → σ.1 3 5 = nI v) ∧ τ.1 468 21 = nI s ∧ τ.1 468 20 = nI e ∧ RK tx nb s kd w τ
theorem le_no {c : Nat} (h : leB c) : ¬ c = 40 := by
  have h : 97 ≤ c ∧ c ≤ 122 := h
  omega
theorem di_no {c : Nat} (h : diB c) : ¬ c = 40 := by
  have h : 48 ≤ c ∧ c ≤ 57 := h
  omega
theorem sign_lt {c : Nat} (hc : c < 256) (h : ¬ f_X9_isSign (sgnB c) = 0) : c < 128 := by
  apply Classical.byContradiction
  intro w
  exact h (sg_256 ⟨c, hc⟩ (by show 128 ≤ c; omega)).1
theorem nRl0 : nRl 0 0 := Or.inl ⟨by decide, rfl⟩
set_option maxRecDepth 100000 in
theorem pr_next {p : Nat} (h : TC nb tx σ) (g : TM nb tx τ) (h4 : σ.1 3 4 = nI p) (g4 : τ.1 468 20 = nI p) (hp : p ≤ nb) (hN : 3000 < N) : p_X6_next N σ ∧ p_X9_scan N τ ∧ p_X9_isOpenBehind N τ ∧ ∃ s e kd v w, TKs tx nb s e kd v w (s_X6_next N σ) (s_X9_scan N τ) ∧ rfr sTC σ (s_X6_next N σ) ∧ rfr sTM τ (s_X9_scan N τ) ∧ p ≤ s ∧ f_X9_isOpenBehind N τ = (if kd = 40 then 1 else 0) := by
  have hn := h.2.2.1
  obtain ⟨s, hs⟩ := sk_ex (nb := nb) (tx := tx) (P := blB) (nb - p) p (by omega)
  obtain ⟨s1, s2, s3, s4⟩ := hs
  obtain ⟨z, hz⟩ : ∃ z, N = (z + 1) + (s - p) + 1 := ⟨N - (s - p) - 2, by omega⟩
  obtain ⟨zr, hzr⟩ : ∃ zr, N = zr + (s - p) + 1 := ⟨N - (s - p) - 1, by omega⟩
  have f0 : rfr (fun q j => q = 3 ∧ j = 3) σ (zuI σ 3 3 (nI p)) := rfr.rf.uI (show (fun q j => q = 3 ∧ j = 3) 3 3 from ⟨rfl, rfl⟩)
  have r0 : rfr (fun q j => q = 468 ∧ j = 21) τ (zuI τ 468 21 (nI p)) := rfr.rf.uI (show (fun q j => q = 468 ∧ j = 21) 468 21 from ⟨rfl, rfl⟩)
  obtain ⟨σ1, a1, a2, a3, a4⟩ := cl_blank (N := N) (s - p) p (zuI σ 3 3 (nI p)) (by omega) ⟨s1, s2, s3, s4⟩ (h.fr (f0.wk (fun q j y => ⟨y.1, by omega, by omega⟩))) (gI_h rfl rfl) (z + 1)
  obtain ⟨τ1, b1, b2, b3, b4⟩ := rf_blank (N := N) (s - p) p (zuI τ 468 21 (nI p)) (by omega) ⟨s1, s2, s3, s4⟩ (g.fr (r0.wk (fun q j y => ⟨y.1, by omega, by omega⟩))) (gI_h rfl rfl) zr
  obtain ⟨o1, o2⟩ := rf_opnb (N := N) (s - p) p (by omega) ⟨s1, s2, s3, s4⟩ g N (by omega)
  rw [← hz] at a1 a2
  rw [← hzr] at b1 b2
  have es : s_X6_next N σ = l_X6_next N (z + 1) 1 σ1 := by
    unfold s_X6_next u_X6_next_1
    rw [h4]
    exact a1
  have ps : q_X6_next N (z + 1) 1 σ1 → p_X6_next N σ := fun y => by
    unfold p_X6_next u_X6_next_1
    rw [h4]
    exact a2 y
  have et : s_X9_scan N τ = l_X9_scan N (zr + 1) τ1 := by
    unfold s_X9_scan u_X9_scan_1
    rw [g4]
    exact b1
  have pt : q_X9_scan N (zr + 1) τ1 → p_X9_scan N τ := fun y => by
    unfold p_X9_scan u_X9_scan_1
    rw [g4]
    exact b2 y
  have po : p_X9_isOpenBehind N τ := by
    unfold p_X9_isOpenBehind
    rw [g4]
    exact o1
  have eo : f_X9_isOpenBehind N τ = if f_X9_signAt (nI s) τ = 40 then 1 else 0 := by
    unfold f_X9_isOpenBehind
    rw [g4]
    exact o2
  have fs1 : rfr sTC σ σ1 := (f0.tr a3).wk (fun q j y => ⟨y.1, by omega, by omega⟩)
  have ft1 : rfr sTM τ τ1 := (r0.tr b3).wk (fun q j y => ⟨y.1, by omega, by omega⟩)
  have eu : u_X6_next_h1_1 N σ1 = zuI σ1 3 4 (nI s) := by
    unfold u_X6_next_h1_1
    rw [a4]
  have fs2 : rfr sTC σ (zuI σ1 3 4 (nI s)) := fs1.uI ⟨rfl, by omega, by omega⟩
  have hC2 := h.fr fs2
  have c3 : (zuI σ1 3 4 (nI s)).1 3 3 = nI s := (gI_n (by omega)).trans a4
  have c4 : (zuI σ1 3 4 (nI s)).1 3 4 = nI s := gI_h rfl rfl
  have ev : u_X9_scan_h0_1 N τ1 = zuI τ1 468 20 (nI (s + 1)) := by
    unfold u_X9_scan_h0_1
    rw [b4, nI_1]
  have ft2 : rfr sTM τ (zuI τ1 468 20 (nI (s + 1))) := ft1.uI ⟨rfl, by omega, by omega⟩
  have hM1 := g.fr ft1
  have hM2 := g.fr ft2
  have d1 : (zuI τ1 468 20 (nI (s + 1))).1 468 21 = nI s := (gI_n (by omega)).trans b4
  have bl0 : f_X9_isBlank (nI s) τ1 = 0 := by
    by_cases c : s < nb
    · rw [hM1.bl c]; exact one0.mpr (s4 c)
    · rw [show s = nb by omega]; exact hM1.bl0
  have pbl := (hM1.sg (p := s) s2).2.1
  obtain ⟨g1, -, g3, g0⟩ := hM2.sg (p := s) s2
  obtain ⟨-, -, k3, k0⟩ := g.sg (p := s) s2
  generalize hσ2 : zuI σ1 3 4 (nI s) = σ2 at eu fs2 hC2 c3 c4
  generalize hτ2 : zuI τ1 468 20 (nI (s + 1)) = τ2 at ev ft2 hM2 d1 g1 g3 g0
  have e20 : τ2.1 468 20 = nI (s + 1) := by rw [← hτ2]; exact gI_h rfl rfl
  obtain ⟨po1, po2, po3⟩ := hC2.po
  by_cases c : s < nb
  · -- a sign stands there
    have cl : nI s < nI nb := nI_lt c (by omega)
    have g3 := g3 c
    have k3 := k3 c
    have hb := (h.2.2.2 s c).1
    obtain ⟨n1, n2, n3, n4, n5, n6⟩ := kn hb
    have l1 : f_X6_isLetter (nI (tx s)) = f_X9_isLetter (sgnB (tx s)) := n2.trans n4.symm
    have l2 : f_X6_isDigit (nI (tx s)) = f_X9_isDigit (sgnB (tx s)) := n3.trans n5.symm
    rw [k3] at eo
    have kcl : l_X6_next N (z + 1) 1 σ1 = (if f_X9_isLetter (sgnB (tx s)) = 0 then (if f_X9_isDigit (sgnB (tx s)) = 0 then (if f_X6_isSign (nI (tx s)) N (zuI σ2 3 4 (nI (s + 1))) = 0 then zuI (zuI σ2 3 4 (nI (s + 1))) 3 2 301 else zuI (zuI σ2 3 4 (nI (s + 1))) 3 2 (nI (tx s))) else zuI (s_X6_readNumber N σ2) 3 2 302) else zuI (s_X6_skipWord N σ2) 3 2 (f_X6_wordKind N (s_X6_skipWord N σ2))) := by
      rw [l_X6_next]
      unfold u_X6_next_h1_3 u_X6_next_h1_4 u_X6_next_h1_6 u_X6_next_h1_5 u_X6_next_h1_8 u_X6_next_h1_7 u_X6_next_h1_2
      rw [eu, c3, hC2.2.1, if_pos cl, hC2.at c, l1, l2, nI_1]
    have kpc : (f_X9_isLetter (sgnB (tx s)) = 0 → ¬ f_X9_isDigit (sgnB (tx s)) = 0 → p_X6_readNumber N σ2) → (¬ f_X9_isLetter (sgnB (tx s)) = 0 → p_X6_skipWord N σ2 ∧ p_X6_wordKind N (s_X6_skipWord N σ2)) → q_X6_next N (z + 1) 1 σ1 := fun y1 y2 => by
      rw [q_X6_next]
      unfold u_X6_next_h1_7 u_X6_next_h1_2
      rw [eu, c3, hC2.2.1, hC2.at c, l1, l2, nI_1]
      exact ⟨po1, hC2.pat, fun _ => ⟨fun y3 => ⟨fun y4 => (isSign_eq hb (by omega)).1, fun y4 => y1 y3 y4⟩, fun y3 => y2 y3⟩⟩
    have krf : l_X9_scan N (zr + 1) τ1 = (if f_X9_isLetter (sgnB (tx s)) = 0 then (if f_X9_isDigit (sgnB (tx s)) = 0 then (if f_X9_isSign (sgnB (tx s)) = 0 then zuI τ2 468 22 1 else zuI τ2 468 22 4) else s_X9_scanNumber N τ2) else s_X9_scanWord N τ2) := by
      rw [l_X9_scan]
      unfold u_X9_scan_h0_2 u_X9_scan_h0_3 u_X9_scan_h0_4 u_X9_scan_h0_5
      rw [b4, bl0, if_pos rfl, ev, d1, hM2.1, if_pos cl, g3]
    have kpr : (f_X9_isLetter (sgnB (tx s)) = 0 → ¬ f_X9_isDigit (sgnB (tx s)) = 0 → p_X9_scanNumber N τ2) → (¬ f_X9_isLetter (sgnB (tx s)) = 0 → p_X9_scanWord N τ2) → q_X9_scan N (zr + 1) τ1 := fun y1 y2 => by
      rw [q_X9_scan, b4, ev, d1, g3]
      exact ⟨pbl, fun _ => ⟨g1, fun _ => ⟨fun y3 y4 => y1 y3 y4, fun y3 => y2 y3⟩⟩, fun y3 => absurd bl0 y3⟩
    rw [es, et, kcl, krf]
    by_cases cL : f_X9_isLetter (sgnB (tx s)) = 0
    · have nL : ¬ leB (tx s) := by rw [n4] at cL; exact one0.mp cL
      rw [if_pos cL, if_pos cL]
      by_cases cD : f_X9_isDigit (sgnB (tx s)) = 0
      · have nD : ¬ diB (tx s) := by rw [n5] at cD; exact one0.mp cD
        obtain ⟨i1, i2⟩ := isSign_eq (N := N) (σ := zuI σ2 3 4 (nI (s + 1))) hb (by omega)
        rw [if_pos cD, if_pos cD, i2]
        have ppc := ps (kpc (fun _ y => absurd cD y) (fun y => absurd cL y))
        have ppr := pt (kpr (fun _ y => absurd cD y) (fun y => absurd cL y))
        by_cases cS : f_X9_isSign (sgnB (tx s)) = 0
        · rw [if_pos cS, if_pos cS]
          have n40 : ¬ sgnB (tx s) = 40 := fun y => by rw [y] at cS; exact absurd cS (by decide)
          rw [if_neg n40] at eo
          refine ⟨ppc, ppr, po, s, s + 1, 301, 0, 0, ⟨by omega, by omega, fun y => absurd y (by decide), fun _ => by omega, nRl0, gI_h rfl rfl, ?_, ?_, fun y => absurd y (by decide), ?_, ?_, Or.inr (Or.inl ⟨rfl, gI_h rfl rfl⟩)⟩, (fs2.uI ⟨rfl, by omega, by omega⟩).uI ⟨rfl, by omega, by omega⟩, ft2.uI ⟨rfl, by omega, by omega⟩, s1, eo⟩
          · rw [gI_n (by omega), gI_n (by omega)]; exact c3
          · rw [gI_n (by omega), gI_h rfl rfl]
          · rw [gI_n (by omega)]; exact d1
          · rw [gI_n (by omega)]; exact e20
        · have lt8 := sign_lt hb cS
          rw [if_neg cS, if_neg cS]
          have e40 : (if sgnB (tx s) = 40 then (1 : Int32) else 0) = if tx s = 40 then 1 else 0 := by
            by_cases k : tx s = 40
            · rw [k]; decide
            · rw [if_neg k, if_neg (fun y => k ((sgn_eq (a := 40) (by decide) hb).mp y.symm).symm)]
          rw [e40] at eo
          refine ⟨ppc, ppr, po, s, s + 1, tx s, 0, 0, ⟨by omega, by omega, fun y => by omega, fun _ => by omega, nRl0, gI_h rfl rfl, ?_, ?_, fun y => by omega, ?_, ?_, Or.inr (Or.inr (Or.inr (Or.inr (Or.inr ⟨lt8, gI_h rfl rfl, c, rfl⟩))))⟩, (fs2.uI ⟨rfl, by omega, by omega⟩).uI ⟨rfl, by omega, by omega⟩, ft2.uI ⟨rfl, by omega, by omega⟩, s1, eo⟩
          · rw [gI_n (by omega), gI_n (by omega)]; exact c3
          · rw [gI_n (by omega), gI_h rfl rfl]
          · rw [gI_n (by omega)]; exact d1
          · rw [gI_n (by omega)]; exact e20
      · -- a number
        have yD : diB (tx s) := Classical.byContradiction fun w => cD (by rw [n5]; exact one0.mpr w)
        rw [if_neg cD, if_neg cD]
        obtain ⟨e, hse, hen, he3, he4⟩ := sk_ex (nb := nb) (tx := tx) (P := diB) (nb - s) s (by omega)
        have les : s < e := Classical.byContradiction fun w => he4 (by omega) (by rw [show e = s by omega]; exact yD)
        have q1 : rfr sTC σ (zuI σ2 3 5 0) := fs2.uI ⟨rfl, by omega, by omega⟩
        have q2 : rfr sTM τ (zuI (zuI (zuI τ2 468 22 3) 468 23 0) 468 20 (nI s)) := ((ft2.uI ⟨rfl, by omega, by omega⟩).uI ⟨rfl, by omega, by omega⟩).uI ⟨rfl, by omega, by omega⟩
        have ex : u_X9_scanNumber_3 N τ2 = zuI (zuI (zuI τ2 468 22 3) 468 23 0) 468 20 (nI s) := by
          unfold u_X9_scanNumber_3 u_X9_scanNumber_2 u_X9_scanNumber_1
          rw [gI_n (by omega), gI_n (by omega), d1]
        obtain ⟨j1, j2, j3, j4, j5, j6, v, w, j7, j8, j9⟩ := pr_num (N := N) (e - s) s 0 0 (zuI σ2 3 5 0) (zuI (zuI (zuI τ2 468 22 3) 468 23 0) 468 20 (nI s)) (by omega) ⟨hse, hen, he3, he4⟩ (h.fr q1) (g.fr q2) nRl0 ((gI_n (by omega)).trans c4) (gI_h rfl rfl) (gI_h rfl rfl) ((gI_n (by omega)).trans (gI_h rfl rfl)) N N (by omega) (by omega)
        have ec : s_X6_readNumber N σ2 = l_X6_readNumber N N (zuI σ2 3 5 0) := rfl
        have er : s_X9_scanNumber N τ2 = l_X9_scanNumber N N (zuI (zuI (zuI τ2 468 22 3) 468 23 0) 468 20 (nI s)) := by
          unfold s_X9_scanNumber
          rw [ex]
        have ppc := ps (kpc (fun _ _ => j1) (fun y => absurd cL y))
        have ppr := pt (kpr (fun _ _ => by unfold p_X9_scanNumber; rw [ex]; exact j2) (fun y => absurd cL y))
        rw [ec, er]
        have n40 : ¬ sgnB (tx s) = 40 := fun y => by
          rw [y] at cD
          exact cD (by decide)
        rw [if_neg n40] at eo
        have m1 : ∀ q j, ¬ (q = 3 ∧ (j = 4 ∨ j = 5)) → (l_X6_readNumber N N (zuI σ2 3 5 0)).1 q j = σ2.1 q j := fun q j y => by rw [j3.2 _ _ y, gI_n (by omega)]
        have m2 : ∀ q j, ¬ (q = 468 ∧ (j = 20 ∨ j = 22 ∨ j = 23)) → (l_X9_scanNumber N N (zuI (zuI (zuI τ2 468 22 3) 468 23 0) 468 20 (nI s))).1 q j = τ2.1 q j := fun q j y => by rw [j4.2 _ _ (fun y1 => y ⟨y1.1, by omega⟩), gI_n (by omega), gI_n (by omega), gI_n (by omega)]
        refine ⟨ppc, ppr, po, s, e, 302, v, w, ⟨hse, hen, fun y => absurd y (by decide), fun _ => les, j7, gI_h rfl rfl, ?_, ?_, fun _ => ?_, ?_, j6, Or.inr (Or.inr (Or.inl ⟨rfl, ?_, j9⟩))⟩, (q1.tr (j3.wk (fun q j y => ⟨y.1, by omega, by omega⟩))).uI ⟨rfl, by omega, by omega⟩, q2.tr (j4.wk (fun q j y => ⟨y.1, by omega, by omega⟩)), s1, eo⟩
        · rw [gI_n (by omega), m1 _ _ (by omega)]; exact c3
        · rw [gI_n (by omega)]; exact j5
        · rw [gI_n (by omega)]; exact j8
        · rw [m2 _ _ (by omega)]; exact d1
        · rw [j4.2 _ _ (by omega), gI_n (by omega), gI_n (by omega), gI_h rfl rfl]
    · -- a word
      have yL : leB (tx s) := Classical.byContradiction fun w => cL (by rw [n4]; exact one0.mpr w)
      rw [if_neg cL, if_neg cL]
      obtain ⟨e, hse, hen, he3, he4⟩ := sk_ex (nb := nb) (tx := tx) (P := leB) (nb - s) s (by omega)
      have les : s < e := Classical.byContradiction fun w => he4 (by omega) (by rw [show e = s by omega]; exact yL)
      obtain ⟨j1, j2, j3⟩ := cl_skip (N := N) (e - s) s σ2 (by omega) ⟨hse, hen, he3, he4⟩ hC2 c4 N (by omega)
      have ec : s_X6_skipWord N σ2 = l_X6_skipWord N N σ2 := rfl
      generalize l_X6_skipWord N N σ2 = σ3 at j2 j3 ec
      have f3 : rfr sTC σ σ3 := fs2.tr (j2.wk (fun q j y => ⟨y.1, by omega, by omega⟩))
      have m3 : σ3.1 3 3 = nI s := (j2.2 _ _ (by omega)).trans c3
      obtain ⟨w1, w2⟩ := cl_wordKind (N := N) (h.fr f3) m3 j3 hse hen (by omega)
      have q2 : rfr sTM τ (zuI (zuI τ2 468 22 2) 468 20 (nI s)) := (ft2.uI ⟨rfl, by omega, by omega⟩).uI ⟨rfl, by omega, by omega⟩
      have ex : u_X9_scanWord_2 N τ2 = zuI (zuI τ2 468 22 2) 468 20 (nI s) := by
        unfold u_X9_scanWord_2 u_X9_scanWord_1
        rw [gI_n (by omega), d1]
      obtain ⟨zz, hzz⟩ : ∃ zz, N = (zz + 9 * 13 + 1) + (e - s) + 1 := ⟨N - 119 - (e - s), by omega⟩
      obtain ⟨τ3, t1, t2, t3, t4, t5⟩ := rf_skip (N := N) (e - s) s _ (by omega) ⟨hse, hen, he3, he4⟩ (g.fr q2) (gI_h rfl rfl) (zz + 9 * 13 + 1)
      rw [← hzz] at t1 t2
      have q3 : rfr sTM τ τ3 := q2.tr (t3.wk (fun q j y => ⟨y.1, by omega, by omega⟩))
      have at3 : τ3.1 468 21 = nI s := by rw [t3.2 _ _ (by omega), gI_n (by omega), gI_n (by omega)]; exact d1
      have to3 : τ3.1 468 22 = 2 := by rw [t3.2 _ _ (by omega), gI_n (by omega), gI_h rfl rfl]
      obtain ⟨x1, x2, x3⟩ := rf_words (N := N) hse hen (by omega) 13 0 τ3 0 (by omega) (g.fr q3) at3 t4 zz
      have er : s_X9_scanWord N τ2 = l_X9_scanWord N (zz + 9 * 13 + 1) 1 (nI (wo 0)) (nI 0) 0 τ3 := by
        unfold s_X9_scanWord
        rw [ex]
        exact t1
      have pw : p_X9_scanWord N τ2 := by
        unfold p_X9_scanWord
        rw [ex]
        exact t2 x1
      rw [ec, er]
      generalize l_X9_scanWord N (zz + 9 * 13 + 1) 1 (nI (wo 0)) (nI 0) 0 τ3 = τ4 at x2 x3
      have ppc := ps (kpc (fun y => absurd y cL) (fun _ => ⟨j1, by rw [ec]; exact w1⟩))
      have ppr := pt (kpr (fun y => absurd y cL) (fun _ => pw))
      have n40 : ¬ sgnB (tx s) = 40 := fun y => by
        rw [y] at cL
        exact cL (by decide)
      rw [if_neg n40] at eo
      have q4 : rfr sTM τ τ4 := q3.tr (x2.wk (fun q j y => ⟨y.1, by omega, by omega⟩))
      have at4 : τ4.1 468 21 = nI s := by rw [x2.2 _ _ (by omega)]; exact at3
      have nx4 : τ4.1 468 20 = nI e := by rw [x2.2 _ _ (by omega)]; exact t4
      have to4 : τ4.1 468 22 = 2 := by rw [x2.2 _ _ (by omega)]; exact to3
      rcases w2 with ⟨u, u1, u2, u3⟩ | ⟨u1, u2⟩
      · have wd4 : τ4.1 468 24 = nI u := by
          rcases x3 with ⟨u', y1, y2, y3, y4⟩ | ⟨y1, y2⟩
          · rw [y4, y3.u u2 y2 u1]
          · exact absurd u2 (y1 u (by omega) u1)
        rw [u3]
        refine ⟨ppc, ppr, po, s, e, 310 + u, 0, 0, ⟨hse, hen, fun y => by omega, fun _ => les, nRl0, gI_h rfl rfl, ?_, ?_, fun y => by omega, at4, nx4, Or.inr (Or.inr (Or.inr (Or.inr (Or.inl ⟨by omega, by omega, to4, ?_⟩))))⟩, f3.uI ⟨rfl, by omega, by omega⟩, q4, s1, ?_⟩
        · rw [gI_n (by omega)]; exact m3
        · rw [gI_n (by omega)]; exact j3
        · rw [wd4, Nat.add_sub_cancel_left]
        · rw [eo, if_neg (by omega)]
      · have wd4 : τ4.1 468 24 = -1 := by
          rcases x3 with ⟨u', y1, y2, y3, y4⟩ | ⟨y1, y2⟩
          · exact absurd y3 (u1 u' y2)
          · rw [y2]; exact t5
        rw [u2]
        refine ⟨ppc, ppr, po, s, e, 303, 0, 0, ⟨hse, hen, fun y => absurd y (by decide), fun _ => les, nRl0, gI_h rfl rfl, ?_, ?_, fun y => absurd y (by decide), at4, nx4, Or.inr (Or.inr (Or.inr (Or.inl ⟨rfl, to4, wd4⟩)))⟩, f3.uI ⟨rfl, by omega, by omega⟩, q4, s1, eo⟩
        · rw [gI_n (by omega)]; exact m3
        · rw [gI_n (by omega)]; exact j3
  · -- the end
    have esn : s = nb := by omega
    have cl : ¬ nI s < nI nb := nI_nlt (by omega) (by omega)
    have k0 := k0 esn
    rw [k0, if_neg (by decide)] at eo
    have kcl : l_X6_next N (z + 1) 1 σ1 = zuI σ2 3 2 300 := by
      rw [l_X6_next]
      unfold u_X6_next_h1_9
      rw [eu, c3, hC2.2.1, if_neg cl]
    have kpc : q_X6_next N (z + 1) 1 σ1 := by
      rw [q_X6_next, eu, c3, hC2.2.1]
      exact ⟨po1, hC2.pat, fun y => absurd y cl⟩
    have krf : l_X9_scan N (zr + 1) τ1 = zuI (zuI τ2 468 20 (nI s)) 468 22 0 := by
      rw [l_X9_scan]
      unfold u_X9_scan_h0_7 u_X9_scan_h0_6
      rw [b4, bl0, if_pos rfl, ev, d1, hM2.1, if_neg cl]
    have kpr : q_X9_scan N (zr + 1) τ1 := by
      rw [q_X9_scan, b4, ev, d1, hM2.1]
      exact ⟨pbl, fun _ => ⟨g1, fun y => absurd y cl⟩, fun y3 => absurd bl0 y3⟩
    rw [es, et, kcl, krf]
    refine ⟨ps kpc, pt kpr, po, s, s, 300, 0, 0, ⟨Nat.le_refl _, s2, fun _ => esn, fun y => absurd rfl y, nRl0, gI_h rfl rfl, ?_, ?_, fun y => absurd y (by decide), ?_, ?_, Or.inl ⟨rfl, gI_h rfl rfl⟩⟩, fs2.uI ⟨rfl, by omega, by omega⟩, (ft2.uI ⟨rfl, by omega, by omega⟩).uI ⟨rfl, by omega, by omega⟩, s1, eo⟩
    · rw [gI_n (by omega)]; exact c3
    · rw [gI_n (by omega)]; exact c4
    · rw [gI_n (by omega), gI_n (by omega)]; exact d1
    · rw [gI_n (by omega), gI_h rfl rfl]
end IS
