/-! the line of a task -/
section IS
variable {N nb q b : Nat} {tx : Nat → Nat} {σ σ1 σ2 τ τ1 τ2 : zS}
def TLR (nb : Nat) (tx : Nat → Nat) (q b m e n nf : Nat) (r : Int32 × zS) (σ τ τ1 : zS) : Prop := (r.1 = 0 ∧ FT r.2 τ1 ∧ rfr (sBc q) σ r.2 ∧ rfr (sBm b) τ τ1) ∨ (r.1 = 1 ∧ n < 4 ∧ rfr (fun Q j => sFc q n Q j ∨ (Q = q + 3 ∧ j = n)) σ r.2 ∧ rfr (fun Q j => sFm b n Q j ∨ (Q = 482 ∧ j = 4 * b + n)) τ τ1 ∧ r.2.1 q 7 = nI (n + 1) ∧ τ1.1 477 b = nI (n + 1) ∧ (∀ k, k < 4 → r.2.1 (q + 4) (n * 4 + k) = τ1.1 483 (4 * (4 * b + n) + k)) ∧ (∃ f, f < nf ∧ r.2.1 (q + 3) n = nI f ∧ τ1.1 482 (4 * b + n) = nI f) ∧ ∃ s1 e1 kd1 v1 w1, LNb nb tx q b m s1 e1 kd1 v1 w1 r.2 τ1 ∧ e ≤ s1)
/-- the four places of its numbers are cleared, then on -/
theorem tk_clear {f n z : Nat} (b2 : b < 2) (n4 : n < 4) (ρ : zS) (hs : p_X9_scan N (zuI (zuI (zuI (zuI ρ 483 (4 * (4 * b + n) + 0) 0) 483 (4 * (4 * b + n) + 1) 0) 483 (4 * (4 * b + n) + 2) 0) 483 (4 * (4 * b + n) + 3) 0)) (hq : q_X9_readTask N z 3 (nI b) (nI f) (nI (4 * b + n)) 0 (s_X9_scan N (zuI (zuI (zuI (zuI ρ 483 (4 * (4 * b + n) + 0) 0) 483 (4 * (4 * b + n) + 1) 0) 483 (4 * (4 * b + n) + 2) 0) 483 (4 * (4 * b + n) + 3) 0))) : q_X9_readTask N (z + 1 + 1 + 1 + 1 + 1) 2 (nI b) (nI f) (nI (4 * b + n)) 0 ρ ∧ l_X9_readTask N (z + 1 + 1 + 1 + 1 + 1) 2 (nI b) (nI f) (nI (4 * b + n)) 0 ρ = l_X9_readTask N z 3 (nI b) (nI f) (nI (4 * b + n)) 0 (s_X9_scan N (zuI (zuI (zuI (zuI ρ 483 (4 * (4 * b + n) + 0) 0) 483 (4 * (4 * b + n) + 1) 0) 483 (4 * (4 * b + n) + 2) 0) 483 (4 * (4 * b + n) + 3) 0)) := by
  have st : ∀ (k y : Nat) (ρ : zS), k < 4 → (q_X9_readTask N y 2 (nI b) (nI f) (nI (4 * b + n)) (nI (k + 1)) (zuI ρ 483 (4 * (4 * b + n) + k) 0) → q_X9_readTask N (y + 1) 2 (nI b) (nI f) (nI (4 * b + n)) (nI k) ρ) ∧ l_X9_readTask N (y + 1) 2 (nI b) (nI f) (nI (4 * b + n)) (nI k) ρ = l_X9_readTask N y 2 (nI b) (nI f) (nI (4 * b + n)) (nI (k + 1)) (zuI ρ 483 (4 * (4 * b + n) + k) 0) := fun k y ρ hk => by
    have nl : ¬ (4 : Int32) ≤ nI k := nI_ge (b := 4) hk (by decide)
    have ei : (4 : Int32) * nI (4 * b + n) + nI k = nI (4 * (4 * b + n) + k) := by rw [show (4 : Int32) = nI 4 from rfl, pk_mul, nI_add]
    have eu : u_X9_readTask_h2_2 N (nI b) (nI f) (nI (4 * b + n)) (nI k) ρ = zuI ρ 483 (4 * (4 * b + n) + k) 0 := by
      unfold u_X9_readTask_h2_2
      rw [ei, nI_clamp (by omega)]
    refine ⟨fun y => ?_, ?_⟩
    · rw [q_X9_readTask, ei, eu, nI_1]
      exact ⟨fun y => absurd y nl, fun _ => ⟨vp_in_nI (by omega) (by decide), y⟩⟩
    · rw [l_X9_readTask, if_neg nl, eu, nI_1]
  have c4 : (4 : Int32) ≤ nI 4 := by decide
  obtain ⟨a0, b0⟩ := st 0 (z + 1 + 1 + 1 + 1) ρ (by decide)
  obtain ⟨a1, b1⟩ := st 1 (z + 1 + 1 + 1) (zuI ρ 483 (4 * (4 * b + n) + 0) 0) (by decide)
  obtain ⟨a2, b2'⟩ := st 2 (z + 1 + 1) (zuI (zuI ρ 483 (4 * (4 * b + n) + 0) 0) 483 (4 * (4 * b + n) + 1) 0) (by decide)
  obtain ⟨a3, b3⟩ := st 3 (z + 1) (zuI (zuI (zuI ρ 483 (4 * (4 * b + n) + 0) 0) 483 (4 * (4 * b + n) + 1) 0) 483 (4 * (4 * b + n) + 2) 0) (by decide)
  refine ⟨a0 (a1 (a2 (a3 ?_))), ?_⟩
  · rw [q_X9_readTask]
    exact ⟨fun _ => ⟨hs, hq⟩, fun y => absurd c4 y⟩
  · refine b0.trans (b1.trans (b2'.trans (b3.trans ?_)))
    rw [l_X9_readTask, if_pos c4]
    rfl
theorem ln_task {m s e kd v w n nf : Nat} {fa fl ar : Nat → Nat} (h : LNb nb tx q b m s e kd v w σ τ) (kk : kd = 315) (hF : NmF nb nf fa fl σ τ) (h6 : σ.1 q 6 = nI nf) (h76 : τ.1 476 b = nI nf) (h7 : σ.1 q 7 = nI n) (h77 : τ.1 477 b = nI n) (n4 : n ≤ 4) (har : ∀ f, f < nf → ar f ≤ 4 ∧ σ.1 (q + 2) f = nI (ar f) ∧ τ.1 481 (6 * b + f) = nI (ar f)) (hz : ∀ k, k < 4 → n < 4 → σ.1 (q + 4) (n * 4 + k) = 0) (hN : 200000 < N) : p_X3_readTask N σ ∧ p_X9_readLine (nI b) N τ ∧ p_X9_need 59 N (s_X9_readLine (nI b) N τ) ∧ TLR nb tx q b m e n nf (r_X3_readTask N σ) σ τ (s_X9_need 59 N (s_X9_readLine (nI b) N τ)) := by
  have n10 : ¬ (1 : Int32) = 0 := by decide
  have h0 := h
  obtain ⟨sl, h33, h21⟩ := h.s1
  obtain ⟨a1, a2, ⟨qq, q3, b2⟩, hT, h25, -, -⟩ := h
  have er : σ.2 2 1 - 1 = q := by rw [qq]; rfl
  have nz : σ.2 2 1 ≠ 0 := by rw [qq]; omega
  have hl := ly_q q3
  have cb : (nI b).toNatClampNeg = b := nI_clamp (by omega)
  have vb : vp_in (nI b) 2 := vp_in_nI b2 (by decide)
  have w0 : f_X9_isWord 0 τ = if kd = 310 + 0 then 1 else 0 := rk_word (c := 0) hT h25 (by decide)
  have w1 : f_X9_isWord 1 τ = if kd = 310 + 1 then 1 else 0 := rk_word (c := 1) hT h25 (by decide)
  have w2 : f_X9_isWord 2 τ = if kd = 310 + 2 then 1 else 0 := rk_word (c := 2) hT h25 (by decide)
  have w3 : f_X9_isWord 3 τ = if kd = 310 + 3 then 1 else 0 := rk_word (c := 3) hT h25 (by decide)
  have w4 : f_X9_isWord 4 τ = if kd = 310 + 4 then 1 else 0 := rk_word (c := 4) hT h25 (by decide)
  have w5 : f_X9_isWord 5 τ = if kd = 310 + 5 then 1 else 0 := rk_word (c := 5) hT h25 (by decide)
  rw [if_neg (by omega)] at w0 w1 w2 w3 w4
  rw [if_pos kk] at w5
  have eL : s_X9_readLine (nI b) N τ = s_X9_readTask (nI b) N τ := by
    unfold s_X9_readLine
    rw [w0, w1, w2, w3, w4, w5, if_pos rfl, if_pos rfl, if_pos rfl, if_pos rfl, if_pos rfl, if_neg n10]
    rfl
  have pL : p_X9_readTask (nI b) N τ → p_X9_readLine (nI b) N τ := fun y => by
    unfold p_X9_readLine
    rw [w0, w1, w2, w3, w4, w5]
    exact ⟨fun _ => ⟨fun _ => ⟨fun _ => ⟨fun _ => ⟨fun _ _ => y, fun z => absurd rfl z⟩, fun z => absurd rfl z⟩, fun z => absurd rfl z⟩, fun z => absurd rfl z⟩, fun z => absurd rfl z⟩
  rw [eL]
  have wc : ∀ {ρ ρ1 : zS}, rfr (sZ q (fun _ => False)) ρ ρ1 → rfr (sBc q) ρ ρ1 := fun g => g.wk (fun Q j y => y.elim Or.inl (fun y => y.elim (fun y => Or.inr (Or.inl y)) (fun y => absurd y.2.2 (fun z => z))))
  have fm : ∀ {c : Nat} {ρ ρ1 : zS}, FLm c ρ ρ1 → rfr (sBm b) ρ ρ1 := fun g => by
    unfold FLm at g
    rw [g]
    exact (rfr.rf.uI (Or.inl ⟨rfl, by omega, by omega⟩)).uI (Or.inl ⟨rfl, by omega, by omega⟩)
  obtain ⟨N1, hN1⟩ : ∃ z, N = z + 20 + 1 + 1 + 1 + 1 + 1 + 1 + 1 := ⟨N - 27, by omega⟩
  by_cases c4 : n = 4
  · -- one task too many
    have lt : ¬ σ.1 q 7 < 4 := by rw [h7, c4]; decide
    have e4 : τ.1 477 b = 4 := by rw [h77, c4]; rfl
    have fl5 : FLm 5 τ (s_X9_fail (nI 5) τ) := rf_fail h25
    obtain ⟨f1, f2, -⟩ := ft2 (q := q) (b := b) (Z := fun _ => False) (c := 5) (σ := σ) (by decide) (by decide) sl h33 fl5 h21
    have nf5 : ¬ (s_X9_fail (nI 5) τ).1 468 25 ≤ 0 := by rw [rf_fail h25, gI_n (by omega), gI_h rfl rfl]; decide
    have l0 : l_X9_readTask N (N1 + 20 + 1 + 1 + 1 + 1 + 1 + 1 + 1) 0 (nI b) 0 0 0 (s_X9_fail (nI 5) τ) = s_X9_fail (nI 5) τ ∧ q_X9_readTask N (N1 + 20 + 1 + 1 + 1 + 1 + 1 + 1 + 1) 0 (nI b) 0 0 0 (s_X9_fail (nI 5) τ) := by
      rw [l_X9_readTask, q_X9_readTask, if_neg nf5]
      exact ⟨rfl, fun y => absurd y nf5⟩
    rw [← hN1] at l0
    have es : s_X9_readTask (nI b) N τ = s_X9_fail (nI 5) τ := by
      unfold s_X9_readTask
      rw [cb, if_pos e4]
      exact l0.1
    obtain ⟨cc, pp, c1, c2, c3, c4', c5, c6, c7⟩ := f1
    obtain ⟨d1, d2⟩ := rf_need_bad (N := N) (x := 59) c1 c2 c6
    rw [es, d2]
    refine ⟨⟨⟨nz, by rw [er]; exact hl⟩, fun y => absurd (by rw [er] at y; exact y) lt⟩, pL ⟨vb, fun y => absurd (by rw [cb]; exact e4) y, fun _ => l0.2⟩, d1, Or.inl ?_⟩
    have eR : r_X3_readTask N σ = (0, zuI (zuI σ 2 2 (nI 5)) 2 3 (σ.1 3 3)) := by
      unfold r_X3_readTask
      rw [er, if_neg lt]
      rfl
    rw [eR]
    exact ⟨rfl, ⟨cc, pp, c1, c2, c3, c4', c5, c6, c7⟩, wc f2, fm fl5⟩
  · have lt : σ.1 q 7 < 4 := by rw [h7]; exact nI_lt (b := 4) (by omega) (by decide)
    have e4 : ¬ τ.1 477 b = 4 := by
      rw [h77]
      exact fun y => c4 ((nI_eq (b := 4) (by omega) (by decide)).mp y)
    obtain ⟨n1, n2, n3, n4', s1, e1, kd1, v1, w1', h1, h1e⟩ := st_next h0 hN
    obtain ⟨sl1, h331, h211⟩ := h1.s1
    have cN : ∀ Q j, ¬ Q = 3 → (s_X6_next N σ).1 Q j = σ.1 Q j := fun Q j y => n3.2 _ _ (fun z => y z.1)
    have mN : ∀ Q j, ¬ (Q = 468 ∧ 20 ≤ j ∧ j ≤ 24) → (s_X9_scan N τ).1 Q j = τ.1 Q j := n4'.2
    have hT1 := h1.2.2.2.1
    have h251 := h1.2.2.2.2.1
    have hkd1 := hT1.kd
    have hnm : f_X9_isName (s_X9_scan N τ) = if kd1 = 303 then 1 else 0 := rk_name hT1 h251
    have eu1 : u_X3_readTask_1 N σ = s_X6_next N σ := rfl
    have ev1 : u_X9_readTask_h0_1 N (nI b) 0 0 0 τ = s_X9_scan N τ := rfl
    have z0 : (0 : Int32) ≤ 0 := by decide
    have es : s_X9_readTask (nI b) N τ = l_X9_readTask N N 0 (nI b) 0 0 0 τ := by
      unfold s_X9_readTask
      rw [cb, if_neg e4]
    have pS : q_X9_readTask N N 0 (nI b) 0 0 0 τ → p_X9_readTask (nI b) N τ := fun y => ⟨vb, fun _ => y, fun z => absurd (by rw [cb] at z; exact z) e4⟩
    have f12 : rfr (sBc q) σ (s_X6_next N σ) := wc (rfr.zc n3)
    have m12 : rfr (sBm b) τ (s_X9_scan N τ) := n4'.wk (fun Q j y => Or.inl ⟨y.1, y.2.1, by have := y.2.2; omega⟩)
    rw [es]
    -- faults of the name
    have bad : ∀ c, 1 ≤ c → c ≤ 5 → l_X9_readTask N N 0 (nI b) 0 0 0 τ = s_X9_fail (nI c) (s_X9_scan N τ) → q_X9_readTask N N 0 (nI b) 0 0 0 τ → r_X3_readTask N σ = (0, zuI (zuI (s_X6_next N σ) 2 2 (nI c)) 2 3 ((s_X6_next N σ).1 3 3)) → p_X3_readTask N σ → p_X3_readTask N σ ∧ p_X9_readLine (nI b) N τ ∧ p_X9_need 59 N (l_X9_readTask N N 0 (nI b) 0 0 0 τ) ∧ TLR nb tx q b m e n nf (r_X3_readTask N σ) σ τ (s_X9_need 59 N (l_X9_readTask N N 0 (nI b) 0 0 0 τ)) := fun c c1 c5 y1 y2 y3 y4 => by
      have fl1 : FLm c (s_X9_scan N τ) (s_X9_fail (nI c) (s_X9_scan N τ)) := rf_fail h251
      obtain ⟨f1, f2, -⟩ := ft2 (q := q) (b := b) (Z := fun _ => False) (c := c) (σ := s_X6_next N σ) c1 c5 sl1 h331 fl1 h211
      obtain ⟨cc, pp, c1', c2, c3, c4', c5', c6, c7⟩ := f1
      obtain ⟨d1, d2⟩ := rf_need_bad (N := N) (x := 59) c1' c2 c6
      rw [y1, d2, y3]
      exact ⟨y4, pL (pS y2), d1, Or.inl ⟨rfl, ⟨cc, pp, c1', c2, c3, c4', c5', c6, c7⟩, f12.tr (wc f2), m12.tr (fm fl1)⟩⟩
    have h1b : ∀ (c y : Nat) (x : Int32), 1 ≤ c → c ≤ 5 → q_X9_readTask N (y + 1) 1 (nI b) x 0 0 (s_X9_fail (nI c) (s_X9_scan N τ)) ∧ l_X9_readTask N (y + 1) 1 (nI b) x 0 0 (s_X9_fail (nI c) (s_X9_scan N τ)) = s_X9_fail (nI c) (s_X9_scan N τ) := fun c y x c1 c5 => by
      have nf5 : ¬ (s_X9_fail (nI c) (s_X9_scan N τ)).1 468 25 ≤ 0 := by
        rw [rf_fail h251, gI_n (by omega), gI_h rfl rfl]
        exact nI_nle (by omega) (by omega)
      rw [q_X9_readTask, l_X9_readTask, if_neg nf5]
      exact ⟨fun y => absurd y nf5, rfl⟩
    by_cases k1 : kd1 = 303
    · have hk1 : (s_X6_next N σ).1 3 2 = 303 := by rw [hT1.2.2.2.2.2.1, k1]; rfl
      rw [if_pos k1] at hnm
      have nnm : ¬ f_X9_isName (s_X9_scan N τ) = 0 := by rw [hnm]; exact n10
      have hF1 : NmF nb nf fa fl (s_X6_next N σ) (s_X9_scan N τ) := ⟨hF.1, fun i hi => by
        obtain ⟨x0, x1, x2, x3, x4⟩ := hF.2 i hi
        exact ⟨x0, (cN _ _ (by omega)).trans x1, (cN _ _ (by omega)).trans x2, (mN _ _ (by omega)).trans x3, (mN _ _ (by omega)).trans x4⟩⟩
      have h34 : (s_X6_next N σ).1 3 4 = nI e1 := hT1.2.2.2.2.2.2.2.1
      obtain ⟨p1, p2, p3⟩ := pr_fname (N := N) (s := s1) (e := e1) h1.1 h1.2.1 hF1 h1.2.2.1.1 hl ((cN _ _ (by omega)).trans h6) h211 hT1.2.2.2.2.2.2.2.2.2.2.1 hT1.1 hT1.2.1 (by omega)
      rw [← h331, ← h34] at p1 p3
      have e476 : (s_X9_scan N τ).1 476 b = nI nf := (mN _ _ (by omega)).trans h76
      have nf6 := hF.1
      rcases p3 with ⟨z1, z2⟩ | ⟨f, fn, z1, z2⟩
      · refine bad 4 (by decide) (by decide) ?_ ?_ ?_ ?_
        · have : l_X9_readTask N (N1 + 20 + 1 + 1 + 1 + 1 + 1 + 1 + 1) 0 (nI b) 0 0 0 τ = s_X9_fail (nI 4) (s_X9_scan N τ) := by
            rw [l_X9_readTask, h25, if_pos z0, ev1, if_neg nnm, if_neg nnm, cb, e476, z2, if_neg (show ¬ (0 : Int32) ≤ -1 by decide)]
            exact (h1b 4 _ _ (by decide) (by decide)).2
          rw [← hN1] at this
          exact this
        · have : q_X9_readTask N (N1 + 20 + 1 + 1 + 1 + 1 + 1 + 1 + 1) 0 (nI b) 0 0 0 τ := by
            rw [q_X9_readTask, ev1, cb, e476, z2]
            exact fun _ => ⟨n2, fun y => absurd y nnm, fun _ => ⟨vb, p2, fun _ => ⟨fun y => absurd y (by decide), fun _ => (h1b 4 _ _ (by decide) (by decide)).1⟩, fun y => absurd y nnm⟩⟩
          rw [← hN1] at this
          exact this
        · unfold r_X3_readTask
          rw [er, if_pos lt, eu1, if_pos hk1, z1, if_pos rfl]
          rfl
        · refine ⟨⟨nz, by rw [er]; exact hl⟩, fun _ => ⟨n1, fun _ => ⟨p1, fun y => absurd z1 y⟩⟩⟩
      · -- a function's name
        have np : ¬ nI f = -1 := fun y => nI_pos (n := f) (by omega) (by rw [y]; decide)
        obtain ⟨ar4, ar2, ar81⟩ := har f fn
        generalize hρ : zuI (s_X9_scan N τ) 482 (4 * b + n) (nI f) = ρ
        generalize hρ4 : zuI (zuI (zuI (zuI ρ 483 (4 * (4 * b + n) + 0) 0) 483 (4 * (4 * b + n) + 1) 0) 483 (4 * (4 * b + n) + 2) 0) 483 (4 * (4 * b + n) + 3) 0 = ρ4
        have oρ : ∀ Q j, ¬ (Q = 482 ∧ j = 4 * b + n) → ρ.1 Q j = (s_X9_scan N τ).1 Q j := fun Q j y => by rw [← hρ, gI_n y]
        have oρ4 : ∀ Q j, ¬ (Q = 483 ∧ 4 * (4 * b + n) ≤ j ∧ j < 4 * (4 * b + n) + 4) → ρ4.1 Q j = ρ.1 Q j := fun Q j y => by rw [← hρ4, gI_n (by omega), gI_n (by omega), gI_n (by omega), gI_n (by omega)]
        have zρ4 : ∀ k, k < 4 → ρ4.1 483 (4 * (4 * b + n) + k) = 0 := fun k hk => by
          rw [← hρ4]
          rcases (show k = 0 ∨ k = 1 ∨ k = 2 ∨ k = 3 by omega) with rfl | rfl | rfl | rfl
          · rw [gI_n (by omega), gI_n (by omega), gI_n (by omega)]; exact gI_h rfl rfl
          · rw [gI_n (by omega), gI_n (by omega)]; exact gI_h rfl rfl
          · rw [gI_n (by omega)]; exact gI_h rfl rfl
          · exact gI_h rfl rfl
        have h1' : LNb nb tx q b m s1 e1 kd1 v1 w1' (s_X6_next N σ) ρ4 := h1.eq (fun _ _ _ => rfl) rfl (fun Q j y => by rw [oρ4 _ _ (by omega), oρ _ _ (by omega)])
        obtain ⟨i1, i2, i3, i4, s2, e2, kd2, v2, w2', h2, h2e⟩ := st_next h1' hN
        have cN2 : ∀ Q j, ¬ Q = 3 → (s_X6_next N (s_X6_next N σ)).1 Q j = σ.1 Q j := fun Q j y => (i3.2 _ _ (fun z => y z.1)).trans (cN Q j y)
        have mN2 : ∀ Q j, ¬ (Q = 468 ∧ 20 ≤ j ∧ j ≤ 24) → (s_X9_scan N ρ4).1 Q j = ρ4.1 Q j := i4.2
        have mN3 : ∀ Q j, ¬ (Q = 468 ∧ 20 ≤ j ∧ j ≤ 24) → ¬ (Q = 483 ∧ 4 * (4 * b + n) ≤ j ∧ j < 4 * (4 * b + n) + 4) → ¬ (Q = 482 ∧ j = 4 * b + n) → (s_X9_scan N ρ4).1 Q j = τ.1 Q j := fun Q j y1 y2 y3 => by rw [mN2 _ _ y1, oρ4 _ _ y2, oρ _ _ y3, mN _ _ y1]
        have er2 : (u_X3_readTask_2 N σ).2 2 1 = q + 1 := h2.2.2.1.1
        have er2' : (u_X3_readTask_2 N σ).2 2 1 - 1 = q := by rw [er2]; rfl
        have eu2 : u_X3_readTask_2 N σ = s_X6_next N (s_X6_next N σ) := rfl
        have eu3 : u_X3_readTask_3 N σ = zuI (s_X6_next N (s_X6_next N σ)) (q + 3) n (nI f) := by
          unfold u_X3_readTask_3
          rw [er2', eu1, z1, eu2, cN2 _ _ (by omega), h7, put_i (by omega) (by decide)]
        have h3 : LNb nb tx q b m s2 e2 kd2 v2 w2' (zuI (s_X6_next N (s_X6_next N σ)) (q + 3) n (nI f)) (s_X9_scan N ρ4) := h2.eq (fun Q j y => gI_n (by omega)) rfl (fun _ _ _ => rfl)
        obtain ⟨z, hz1⟩ : ∃ z, N = z + ar f + 1 := ⟨N - ar f - 1, by omega⟩
        obtain ⟨t1, t2⟩ := tk_loop (m := m) (n := n) (f := f) (a := ar f) (by omega) (by omega) ar4 hN (ar f) 0 s2 e2 kd2 v2 w2' (zuI (s_X6_next N (s_X6_next N σ)) (q + 3) n (nI f)) (s_X9_scan N ρ4) (by omega) h3 (by rw [gI_n (by omega), cN2 _ _ (by omega)]; exact h7) (by rw [mN3 _ _ (by omega) (by omega) (by omega)]; exact h77) (by rw [gI_n (by omega), cN2 _ _ (by omega)]; exact ar2) (by rw [mN3 _ _ (by omega) (by omega) (by omega)]; exact ar81) (fun k hk _ => by rw [gI_n (by omega), cN2 _ _ (by omega), hz k hk (by omega), mN2 _ _ (by omega), zρ4 k hk]) z
        rw [← hz1] at t1 t2
        obtain ⟨u1, u2, u3⟩ := t2 (N1 + 20) (by omega)
        have ei : (4 : Int32) * nI b + (s_X9_scan N τ).1 477 b = nI (4 * b + n) := by rw [mN _ _ (by omega), h77, show (4 : Int32) = nI 4 from rfl, pk_mul, nI_add]
        have eh1 : u_X9_readTask_h1_1 N (nI b) (nI f) 0 0 (s_X9_scan N τ) = ρ := by
          unfold u_X9_readTask_h1_1
          rw [cb, ei, nI_clamp (by omega), hρ]
        obtain ⟨k2, k3⟩ := tk_clear (N := N) (f := f) (z := N1 + 20) b2 (show n < 4 by omega) ρ (by rw [hρ4]; exact i2) (by rw [hρ4]; exact u1)
        rw [hρ4] at k3
        have lq : l_X9_readTask N (N1 + 20 + 1 + 1 + 1 + 1 + 1 + 1 + 1) 0 (nI b) 0 0 0 τ = l_X9_readTask N (N1 + 20) 3 (nI b) (nI f) (nI (4 * b + n)) 0 (s_X9_scan N ρ4) ∧ q_X9_readTask N (N1 + 20 + 1 + 1 + 1 + 1 + 1 + 1 + 1) 0 (nI b) 0 0 0 τ := by
          have c0 : (0 : Int32) ≤ nI f := nI_pos' (by omega)
          have l1 : l_X9_readTask N (N1 + 20 + 1 + 1 + 1 + 1 + 1 + 1) 1 (nI b) (nI f) 0 0 (s_X9_scan N τ) = l_X9_readTask N (N1 + 20) 3 (nI b) (nI f) (nI (4 * b + n)) 0 (s_X9_scan N ρ4) := by
            rw [l_X9_readTask, h251, if_pos z0, cb, ei, eh1, k3]
          have q1 : q_X9_readTask N (N1 + 20 + 1 + 1 + 1 + 1 + 1 + 1) 1 (nI b) (nI f) 0 0 (s_X9_scan N τ) := by
            rw [q_X9_readTask, cb, ei, eh1]
            exact fun _ => ⟨vb, vp_in_nI (by omega) (by decide), k2⟩
          refine ⟨?_, ?_⟩
          · rw [l_X9_readTask, h25, if_pos z0, ev1, if_neg nnm, if_neg nnm, cb, e476, z2, if_pos c0, l1]
          · rw [q_X9_readTask, ev1, cb, e476, z2]
            exact fun _ => ⟨n2, fun y => absurd y nnm, fun _ => ⟨vb, p2, fun _ => ⟨fun _ => q1, fun y => absurd c0 y⟩, fun y => absurd y nnm⟩⟩
        rw [← hN1] at lq
        rw [lq.1]
        have eR : r_X3_readTask N σ = l_X3_readTask N N (nI f) 0 (zuI (s_X6_next N (s_X6_next N σ)) (q + 3) n (nI f)) := by
          unfold r_X3_readTask
          rw [er, if_pos lt, eu3, eu1, if_pos hk1, z1, if_neg np]
        have e1le := h1.2.2.2.1.1
        have gC : rfr (fun Q j => sFc q n Q j ∨ (Q = q + 3 ∧ j = n)) σ (zuI (s_X6_next N (s_X6_next N σ)) (q + 3) n (nI f)) := ((n3.wk (fun Q j y => Or.inl (Or.inl y))).tr (i3.wk (fun Q j y => Or.inl (Or.inl y)))).uI (Or.inr ⟨rfl, rfl⟩)
        have gM : rfr (fun Q j => sFm b n Q j ∨ (Q = 482 ∧ j = 4 * b + n)) τ (s_X9_scan N ρ4) := ⟨by rw [i4.1, ← hρ4, ← hρ]; exact n4'.1, fun Q j y => mN3 Q j (fun z => y (Or.inl (Or.inl z))) (fun z => y (Or.inl (Or.inr (Or.inl z)))) (fun z => y (Or.inr z))⟩
        rw [eR]
        refine ⟨⟨⟨nz, by rw [er]; exact hl⟩, fun _ => ⟨n1, fun _ => ⟨p1, fun _ => ⟨i1, ⟨by rw [er2]; omega, by rw [er2']; exact hl⟩, put_p (by decide), ?_⟩⟩⟩⟩, pL (pS lq.2), u2, ?_⟩
        · rw [eu3, eu1, z1]
          exact t1
        · rcases u3 with ⟨x1, x2, x3, x4⟩ | ⟨x1, x2, x3, x4, x5, x6, s3, e3, kd3, v3, w3', x7, x8⟩
          · left
            refine ⟨x1, x2, ?_, ?_⟩
            · exact (gC.wk (fun Q j y => by
                have y : ((Q = 3 ∧ 2 ≤ j ∧ j ≤ 5) ∨ (Q = 2 ∧ j = 5) ∨ (Q = q + 4 ∧ 4 * n ≤ j ∧ j < 4 * n + 4) ∨ (Q = q ∧ j = 7)) ∨ (Q = q + 3 ∧ j = n) := y
                unfold sBc
                omega)).tr x3
            · exact (gM.wk (fun Q j y => by
                have y : ((Q = 468 ∧ 20 ≤ j ∧ j ≤ 24) ∨ (Q = 483 ∧ 4 * (4 * b + n) ≤ j ∧ j < 4 * (4 * b + n) + 4) ∨ (Q = 477 ∧ j = b)) ∨ (Q = 482 ∧ j = 4 * b + n) := y
                unfold sBm
                omega)).tr x4
          · right
            have e2le := h2.2.2.2.1.1
            have x2 : rfr (sFc q n) (zuI (s_X6_next N (s_X6_next N σ)) (q + 3) n (nI f)) (l_X3_readTask N N (nI f) 0 (zuI (s_X6_next N (s_X6_next N σ)) (q + 3) n (nI f))).2 := x2
            have x3 : rfr (sFm b n) (s_X9_scan N ρ4) (s_X9_need 59 N (l_X9_readTask N (N1 + 20) 3 (nI b) (nI f) (nI (4 * b + n)) 0 (s_X9_scan N ρ4))) := x3
            refine ⟨x1, by omega, gC.tr (x2.wk (fun Q j y => Or.inl y)), gM.tr (x3.wk (fun Q j y => Or.inl y)), x4, x5, x6, ⟨f, fn, ?_, ?_⟩, s3, e3, kd3, v3, w3', x7, by omega⟩
            · rw [x2.2 _ _ (fun z => by unfold sFc at z; omega)]; exact gI_h rfl rfl
            · rw [x3.2 _ _ (fun z => by unfold sFm at z; omega), mN2 _ _ (by omega), oρ4 _ _ (by omega), ← hρ]; exact gI_h rfl rfl
    · have hk1 : ¬ (s_X6_next N σ).1 3 2 = 303 := by
        rw [hT1.2.2.2.2.2.1]
        exact fun y => k1 ((nI_eq (b := 303) (by omega) (by decide)).mp y)
      rw [if_neg k1] at hnm
      refine bad 1 (by decide) (by decide) ?_ ?_ ?_ ?_
      · have : l_X9_readTask N (N1 + 20 + 1 + 1 + 1 + 1 + 1 + 1 + 1) 0 (nI b) 0 0 0 τ = s_X9_fail (nI 1) (s_X9_scan N τ) := by
          rw [l_X9_readTask, h25, if_pos z0, ev1, if_pos hnm, if_pos hnm]
          exact (h1b 1 _ _ (by decide) (by decide)).2
        rw [← hN1] at this
        exact this
      · have : q_X9_readTask N (N1 + 20 + 1 + 1 + 1 + 1 + 1 + 1 + 1) 0 (nI b) 0 0 0 τ := by
          rw [q_X9_readTask, ev1]
          exact fun _ => ⟨n2, fun _ => ⟨fun y => absurd hnm y, fun _ => (h1b 1 _ _ (by decide) (by decide)).1⟩, fun y => absurd hnm y⟩
        rw [← hN1] at this
        exact this
      · unfold r_X3_readTask
        rw [er, if_pos lt, eu1, if_neg hk1]
        rfl
      · exact ⟨⟨nz, by rw [er]; exact hl⟩, fun _ => ⟨n1, fun y => absurd y hk1⟩⟩
end IS
