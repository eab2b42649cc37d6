/-! an act begins: what was there is kept on both sides -/
section HS
variable {q1 B W n L F U U1 r p l N : Nat} {K : aK} {H tf rg : Nat → Nat} {gv : Nat → Nat → Int32} {σ σ1 τ τ1 : zS}
theorem act_in (hp : 1 ≤ p ∧ p ≤ 12) (hN : 500 < N) (hq : q1 + 7 ≤ 32) (h2 : σ.1 30 1 = nI p) (h3 : σ.1 30 2 = nI p) (h6 : ∀ i, i < 13 → ∃ c, c < 13 ∧ rg i = 32 + 25 * c) (h7 : ∀ i j, i < 13 → j < 13 → rg i = rg j → i = j) (h8 : ∀ i, i < 13 → σ.2 31 i = rg i + 1) (h9 : ∀ i, i < 13 → ∀ v, v < 4 → σ.2 (rg i + 4) v = rg i + 5 + 5 * v + 1) (ho : RW q1 B W n K L F H tf gv U (rg (p - 1)) σ τ) (hk : ∀ k, k < p - 1 → RW q1 B W n K L F H tf gv U (rg k) σ (tw τ1 498 (11440 * k))) (t1 : τ1.1 468 55 = nI p) (t2 : τ1.1 468 56 = 0) (t3 : ∀ j, j < 11440 → τ1.1 498 (11440 * (p - 1) + j) = τ.1 469 j) (t4 : ∀ q j, ¬ q = 498 → ¬ (q = 468 ∧ (j = 55 ∨ j = 56)) → τ1.1 q j = τ.1 q j) : p_X4_copyFrom (rg p) (rg (p - 1)) N σ ∧ HH q1 B W n K L F H tf gv U p p rg (s_X4_copyFrom (rg p) (rg (p - 1)) N σ) τ1 ∧ zfr (rg p) (rg p + 25) σ (s_X4_copyFrom (rg p) (rg (p - 1)) N σ) := by
  have ap := rg_apart h6 h7 (show p < 13 by omega) (show p - 1 < 13 by omega) (by omega)
  have cp := h6 p (by omega)
  obtain ⟨c1, c2, c3, c4⟩ := ho.cop (r := rg p) hN (Rly.hist cp) (by obtain ⟨c, e1, e2⟩ := cp; omega) ap (h9 p (by omega))
  obtain ⟨cc, cc1, cc2⟩ := cp
  have b16 : τ1.1 468 16 = τ.1 468 16 := t4 _ _ (by omega) (by omega)
  have oth : ∀ k, k < 13 → ¬ k = p → ∀ τ2, RW q1 B W n K L F H tf gv U (rg k) σ τ2 → RW q1 B W n K L F H tf gv U (rg k) (s_X4_copyFrom (rg p) (rg (p - 1)) N σ) τ2 := fun k hk1 hkp τ2 g => by
    have ak := rg_apart h6 h7 hk1 (show p < 13 by omega) hkp
    exact g.sig (fun q j hq1 => c3.at (by omega)) (fun q j m1 m2 => c3.at2 (by omega))
  refine ⟨c1, ⟨⟨Nat.le_refl _, hp.2⟩, (c3.at (by omega)).trans h2, (c3.at (by omega)).trans h3, t1, by rw [Nat.sub_self]; exact t2, h6, h7, fun i hi => (c3.at2 (by omega)).trans (h8 i hi), fun i hi v hv => ?_, c2.tau b16 (fun q j hq1 => t4 q j (by omega) (by omega)) (fun j hj => t4 _ _ (by omega) (by omega)), fun k hk1 => ?_, fun k k1 k2 => absurd k1 (by omega)⟩, c3⟩
  · by_cases e : i = p
    · rw [e]
      exact c2.ptr v hv
    · have ak := rg_apart h6 h7 hi (show p < 13 by omega) e
      rw [c3.at2 (by omega)]
      exact h9 i hi v hv
  · by_cases e : k = p - 1
    · refine oth k (by omega) (by omega) _ ?_
      rw [e]
      refine ho.tau ?_ (fun q j hq1 => ?_) (fun j hj => ?_)
      · rw [tw_o (by decide)]
        exact b16
      · rw [tw_o (by omega)]
        exact t4 _ _ (by omega) (by omega)
      · rw [tw_h]
        exact t3 j hj
    · exact oth k (by omega) (by omega) _ (hk k (by omega))
theorem pr_act (h : HH q1 B W n K L F H tf gv U p l rg σ τ) (hN : 200000 < N) (hq : q1 + 7 ≤ 30) : p_X1_nextAct N σ ∧ p_X9_keepAct N τ ∧ ∃ (p' : Nat) (rg' : Nat → Nat), HH q1 B W n K L F H tf gv U p' p' rg' (r_X1_nextAct N σ).2 (s_X9_keepAct N τ) ∧ (r_X1_nextAct N σ).1 = rg' p' ∧ zfr 30 357 σ (r_X1_nextAct N σ).2 ∧ (∀ q j, ¬ q = 498 → ¬ (q = 468 ∧ (j = 55 ∨ j = 56)) → (s_X9_keepAct N τ).1 q j = τ.1 q j) ∧ (s_X9_keepAct N τ).2 = τ.2 := by
  have hnow := h.now
  obtain ⟨h1, h2, h3, h4, h5, h6, h7, h8, h9, h10, h11, h12⟩ := h
  obtain ⟨k1, k2, k3, k4, k5, k6, k7⟩ := rf_keep hN (show p ≤ 12 by omega) h4
  by_cases c : p = 12
  · subst c
    rw [if_pos rfl] at k2 k4 k5
    obtain ⟨d1, d2, d3, d4, d5⟩ := cl_drop (N := N) (rg := rg) (a := rg 0) h6 12 0 σ rfl (fun i _ hi => h8 i hi) N (by omega)
    have e0 : σ.2 31 0 - 1 = rg 0 := by rw [h8 0 (by omega)]; rfl
    have ed : s_X1_dropOldest N σ = l_X1_dropOldest N N (rg 0) (nI 0) σ := by
      unfold s_X1_dropOldest
      rw [e0]
      rfl
    have pd : p_X1_dropOldest N σ := by
      unfold p_X1_dropOldest
      rw [e0]
      exact ⟨⟨by rw [h8 0 (by omega)]; omega, Rly.self (Rly.hist (h6 0 (by omega)))⟩, d1⟩
    generalize hσd : l_X1_dropOldest N N (rg 0) (nI 0) σ = σd at d2 d3 d4 d5 ed
    obtain ⟨rg', g1, g2⟩ : ∃ rg' : Nat → Nat, (∀ i, i < 12 → rg' i = rg (i + 1)) ∧ rg' 12 = rg 0 := ⟨fun i => if i < 12 then rg (i + 1) else rg 0, fun i hi => if_pos hi, if_neg (by omega)⟩
    have g6 : ∀ i, i < 13 → ∃ c, c < 13 ∧ rg' i = 32 + 25 * c := fun i hi => by
      by_cases z : i < 12
      · rw [g1 i z]; exact h6 _ (by omega)
      · rw [show i = 12 by omega, g2]; exact h6 _ (by omega)
    have g7 : ∀ i j, i < 13 → j < 13 → rg' i = rg' j → i = j := fun i j hi hj e => by
      by_cases zi : i < 12
      · by_cases zj : j < 12
        · rw [g1 i zi, g1 j zj] at e
          have := h7 _ _ (by omega) (by omega) e
          omega
        · rw [g1 i zi, show j = 12 by omega, g2] at e
          have := h7 _ _ (by omega) (by omega) e
          omega
      · by_cases zj : j < 12
        · rw [g1 j zj, show i = 12 by omega, g2] at e
          have := h7 _ _ (by omega) (by omega) e
          omega
        · omega
    have e5 : u_X1_nextAct_5 N σ = zuI σd 30 2 (nI 12) := by
      unfold u_X1_nextAct_5 u_X1_nextAct_4
      rw [ed, d2, h2]
    have f1 : (zuI σd 30 2 (nI 12)).1 30 1 = nI 12 := by rw [gI_n (by omega), d2]; exact h2
    have f8 : ∀ i, i < 13 → (zuI σd 30 2 (nI 12)).2 31 i = rg' i + 1 := fun i hi => by
      by_cases z : i < 12
      · rw [g1 i z]; exact d3 i (by omega) z
      · rw [show i = 12 by omega, g2]; exact d4
    have f9 : ∀ i, i < 13 → ∀ v, v < 4 → (zuI σd 30 2 (nI 12)).2 (rg' i + 4) v = rg' i + 5 + 5 * v + 1 := fun i hi v hv => by
      obtain ⟨cc, cc1, cc2⟩ := g6 i hi
      refine (d5 _ _ (by omega)).trans ?_
      by_cases z : i < 12
      · rw [g1 i z]; exact h9 _ (by omega) v hv
      · rw [show i = 12 by omega, g2]; exact h9 _ (by omega) v hv
    have sg : ∀ k τ2, k < 13 → RW q1 B W n K L F H tf gv U (rg k) σ τ2 → RW q1 B W n K L F H tf gv U (rg k) (zuI σd 30 2 (nI 12)) τ2 := fun k τ2 hk g => by
      obtain ⟨cc, cc1, cc2⟩ := h6 k hk
      exact g.sig (fun q j hq1 => by rw [gI_n (by omega), d2]) (fun q j m1 m2 => d5 q j (by omega))
    have n5 := now_ok (r := rg' 12) (show 12 < 13 by omega) f1 (f8 12 (by omega)) (Rly.self (Rly.hist (g6 12 (by omega))))
    have hkk : ∀ k, k < 12 - 1 → RW q1 B W n K L F H tf gv U (rg' k) (zuI σd 30 2 (nI 12)) (tw (s_X9_keepAct N τ) 498 (11440 * k)) := fun k hk => by
      rw [g1 k (by omega)]
      refine (sg (k + 1) _ (by omega) (h11 (k + 1) (by omega))).tau ?_ (fun q j hq1 => ?_) (fun j hj => ?_)
      · rw [tw_o (by decide), tw_o (by decide)]
        exact k6 _ _ (by omega) (by omega)
      · rw [tw_o (by omega), tw_o (by omega)]
        exact k6 _ _ (by omega) (by omega)
      · rw [tw_h, tw_h, k5 _ (by omega), if_pos rfl, show 11440 + (11440 * k + j) = 11440 * (k + 1) + j by omega]
    obtain ⟨x1, x2, x3⟩ := act_in (q1 := q1) (p := 12) (τ := τ) (τ1 := s_X9_keepAct N τ) (rg := rg') ⟨by omega, by omega⟩ (show 500 < N by omega) (by omega) f1 (gI_h rfl rfl) g6 g7 f8 f9 (by rw [g1 11 (by omega)]; exact sg 12 τ (by omega) h10) hkk k2 k3 k4 k6
    rw [show rg' (12 - 1) = rg 12 from g1 11 (by omega)] at x1 x2 x3
    have n6 := x2.now
    have er : r_X1_nextAct N σ = (rg' 12, s_X4_copyFrom (rg' 12) (rg 12) N (zuI σd 30 2 (nI 12))) := by
      unfold r_X1_nextAct u_X1_nextAct_6
      rw [h2, if_pos (show nI 12 = 12 from rfl), e5, n5.1, hnow.1, n6.1]
    rw [er]
    refine ⟨?_, k1, 12, rg', x2, rfl, fun q hq1 => ⟨?_, ?_⟩, k6, k7⟩
    · unfold p_X1_nextAct u_X1_nextAct_6
      rw [h2, e5, n5.1, hnow.1]
      exact ⟨hnow.2, fun z => absurd rfl z, fun _ => ⟨pd, n5.2, x1, n6.2⟩⟩
    · obtain ⟨cc, cc1, cc2⟩ := g6 12 (by omega)
      rw [(x3 q (by omega)).1]
      funext j
      rw [gI_n (by omega), d2]
    · obtain ⟨cc, cc1, cc2⟩ := g6 12 (by omega)
      rw [(x3 q (by omega)).2]
      funext j
      exact d5 q j (by omega)
  · rw [if_neg c] at k2 k4 k5
    have n12 : ¬ nI p = 12 := fun z => c ((nI_eq (b := 12) (by omega) (by decide)).mp z)
    have e2 : u_X1_nextAct_2 N σ = zuI (zuI σ 30 1 (nI (p + 1))) 30 2 (nI (p + 1)) := by
      unfold u_X1_nextAct_2 u_X1_nextAct_1
      rw [h2, nI_1, gI_h rfl rfl]
    have f1 : (zuI (zuI σ 30 1 (nI (p + 1))) 30 2 (nI (p + 1))).1 30 1 = nI (p + 1) := by rw [gI_n (by omega), gI_h rfl rfl]
    have sg : ∀ k τ2, k < 13 → RW q1 B W n K L F H tf gv U (rg k) σ τ2 → RW q1 B W n K L F H tf gv U (rg k) (zuI (zuI σ 30 1 (nI (p + 1))) 30 2 (nI (p + 1))) τ2 := fun k τ2 hk g => by
      obtain ⟨cc, cc1, cc2⟩ := h6 k hk
      exact g.sig (fun q j hq1 => by rw [gI_n (by omega), gI_n (by omega)]) (fun q j m1 m2 => rfl)
    have n5 := now_ok (r := rg (p + 1)) (show p + 1 < 13 by omega) f1 (h8 (p + 1) (by omega)) (Rly.self (Rly.hist (h6 (p + 1) (by omega))))
    have hkk : ∀ k, k < p + 1 - 1 → RW q1 B W n K L F H tf gv U (rg k) (zuI (zuI σ 30 1 (nI (p + 1))) 30 2 (nI (p + 1))) (tw (s_X9_keepAct N τ) 498 (11440 * k)) := fun k hk => by
      refine (sg k _ (by omega) (h11 k (by omega))).tau ?_ (fun q j hq1 => ?_) (fun j hj => ?_)
      · rw [tw_o (by decide), tw_o (by decide)]
        exact k6 _ _ (by omega) (by omega)
      · rw [tw_o (by omega), tw_o (by omega)]
        exact k6 _ _ (by omega) (by omega)
      · rw [tw_h, tw_h, k5 _ (by have := Nat.mul_le_mul_left 11440 (show k + 1 ≤ p by omega); omega), if_neg c]
    obtain ⟨x1, x2, x3⟩ := act_in (q1 := q1) (p := p + 1) (τ := τ) (τ1 := s_X9_keepAct N τ) (rg := rg) ⟨by omega, by omega⟩ (show 500 < N by omega) (by omega) f1 (gI_h rfl rfl) h6 h7 h8 h9 (sg p τ (by omega) h10) hkk k2 k3 k4 k6
    rw [show p + 1 - 1 = p from rfl] at x1 x2 x3
    have n6 := x2.now
    have er : r_X1_nextAct N σ = (rg (p + 1), s_X4_copyFrom (rg (p + 1)) (rg p) N (zuI (zuI σ 30 1 (nI (p + 1))) 30 2 (nI (p + 1)))) := by
      unfold r_X1_nextAct u_X1_nextAct_3
      rw [h2, if_neg n12, e2, n5.1, hnow.1, n6.1]
    rw [er]
    refine ⟨?_, k1, p + 1, rg, x2, rfl, fun q hq1 => ⟨?_, ?_⟩, k6, k7⟩
    · unfold p_X1_nextAct u_X1_nextAct_3
      rw [h2, e2, n5.1, hnow.1]
      exact ⟨hnow.2, fun _ => ⟨n5.2, x1, n6.2⟩, fun z => absurd z n12⟩
    · obtain ⟨cc, cc1, cc2⟩ := h6 (p + 1) (by omega)
      rw [(x3 q (by omega)).1]
      funext j
      rw [gI_n (by omega), gI_n (by omega)]
    · obtain ⟨cc, cc1, cc2⟩ := h6 (p + 1) (by omega)
      rw [(x3 q (by omega)).2]
      rfl
/-! back and on -/
theorem pr_undo (h : HH q1 B W n K L F H tf gv U p l rg σ τ) (hN : 200000 < N) (hq : q1 + 7 ≤ 30) : p_X9_undo N τ ∧ (r_X1_stepBack σ).1 = (r_X9_undo N τ).1 ∧ ∃ p', HH q1 B W n K L F H tf gv U p' l rg (r_X1_stepBack σ).2 (r_X9_undo N τ).2 ∧ zfr 30 357 σ (r_X1_stepBack σ).2 ∧ (∀ q j, ¬ q = 498 → ¬ q = 469 → ¬ (q = 468 ∧ (j = 55 ∨ j = 56)) → (r_X9_undo N τ).2.1 q j = τ.1 q j) ∧ (r_X9_undo N τ).2.2 = τ.2 := by
  have hh := h
  obtain ⟨h1, h2, h3, h4, h5, h6, h7, h8, h9, h10, h11, h12⟩ := h
  by_cases c : p = 0
  · have er : r_X9_undo N τ = (0, τ) := by
      unfold r_X9_undo
      rw [h4, c]
      rfl
    have ec : r_X1_stepBack σ = (0, σ) := by
      unfold r_X1_stepBack
      rw [h2, c]
      rfl
    rw [er, ec]
    refine ⟨?_, rfl, p, hh, zfr.rf, fun _ _ _ _ _ => rfl, rfl⟩
    unfold p_X9_undo
    rw [h4, c]
    exact fun z => absurd rfl z
  · have n0 : ¬ nI p = 0 := nI_ne0 (by omega) (by omega)
    have e2 : u_X9_undo_2 N τ = zuI (zuI τ 468 55 (nI (p - 1))) 468 56 (nI (l - p + 1)) := by
      unfold u_X9_undo_2 u_X9_undo_1
      rw [h4, nI_s1 (by omega), gI_n (by omega), h5, nI_1]
    obtain ⟨w1, w2, w3, w4⟩ := rw_swap (N := N) (p := p - 1) (by omega) 11440 0 (zuI (zuI τ 468 55 (nI (p - 1))) 468 56 (nI (l - p + 1))) (Nat.zero_add _) (by rw [gI_n (by omega), gI_h rfl rfl]) N (by omega)
    have er : r_X9_undo N τ = (1, l_X9_swapAll N N (nI 0) (zuI (zuI τ 468 55 (nI (p - 1))) 468 56 (nI (l - p + 1)))) := by
      unfold r_X9_undo u_X9_undo_3 s_X9_swapAll
      rw [h4, if_neg n0, e2]
      rfl
    have ec : r_X1_stepBack σ = (1, zuI σ 30 1 (nI (p - 1))) := by
      unfold r_X1_stepBack u_X1_stepBack_1
      rw [h2, if_neg n0, nI_s1 (by omega)]
    have pp : p_X9_undo N τ := by
      unfold p_X9_undo
      rw [e2]
      exact fun _ => w1
    rw [er, ec]
    generalize l_X9_swapAll N N (nI 0) (zuI (zuI τ 468 55 (nI (p - 1))) 468 56 (nI (l - p + 1))) = τ1 at w2 w3 w4
    have to : ∀ q j, ¬ q = 498 → ¬ q = 469 → ¬ (q = 468 ∧ (j = 55 ∨ j = 56)) → τ1.1 q j = τ.1 q j := fun q j z1 z2 z3 => by rw [w3 _ _ (by omega) (by omega), gI_n (by omega), gI_n (by omega)]
    have tn : ∀ j, j < 11440 → τ1.1 469 j = τ.1 498 (11440 * (p - 1) + j) := fun j hj => by rw [(w2 j (by omega) hj).1, gI_n (by omega), gI_n (by omega)]
    have tp : ∀ j, j < 11440 → τ1.1 498 (11440 * (p - 1) + j) = τ.1 469 j := fun j hj => by rw [(w2 j (by omega) hj).2, gI_n (by omega), gI_n (by omega)]
    have tq : ∀ j, ¬ (11440 * (p - 1) ≤ j ∧ j < 11440 * (p - 1) + 11440) → τ1.1 498 j = τ.1 498 j := fun j hj => by rw [w3 _ _ (by omega) (by omega), gI_n (by omega), gI_n (by omega)]
    have sg : ∀ k τ2, k < 13 → RW q1 B W n K L F H tf gv U (rg k) σ τ2 → RW q1 B W n K L F H tf gv U (rg k) (zuI σ 30 1 (nI (p - 1))) τ2 := fun k τ2 hk g => by
      obtain ⟨cc, cc1, cc2⟩ := h6 k hk
      exact g.sig (fun q j hq1 => by rw [gI_n (by omega)]) (fun q j m1 m2 => rfl)
    have mv : ∀ k o, k < 13 → (o + 11440 ≤ 11440 * (p - 1) ∨ 11440 * (p - 1) + 11440 ≤ o) → RW q1 B W n K L F H tf gv U (rg k) σ (tw τ 498 o) → RW q1 B W n K L F H tf gv U (rg k) (zuI σ 30 1 (nI (p - 1))) (tw τ1 498 o) := fun k o hk ho g => by
      refine (sg k _ hk g).tau ?_ (fun q j hq1 => ?_) (fun j hj => ?_)
      · rw [tw_o (by decide), tw_o (by decide)]
        exact to _ _ (by omega) (by omega) (by omega)
      · rw [tw_o (by omega), tw_o (by omega)]
        exact to _ _ (by omega) (by omega) (by omega)
      · rw [tw_h, tw_h]
        exact tq _ (by omega)
    refine ⟨pp, rfl, p - 1, ⟨by omega, gI_h rfl rfl, (gI_n (by omega)).trans h3, ?_, ?_, h6, h7, h8, h9, ?_, fun k hk => mv k _ (by omega) ?_ (h11 k (by omega)), fun k k1 k2 => ?_⟩, fun q hq1 => ⟨funext fun j => gI_n (by omega), rfl⟩, to, w4⟩
    · rw [w3 _ _ (by omega) (by omega), gI_n (by omega), gI_h rfl rfl]
    · rw [w3 _ _ (by omega) (by omega), gI_h rfl rfl]
      congr 1
      omega
    · refine (sg (p - 1) _ (by omega) (h11 (p - 1) (by omega))).tau ?_ (fun q j hq1 => ?_) (fun j hj => ?_)
      · rw [tw_o (by decide)]
        exact to _ _ (by omega) (by omega) (by omega)
      · rw [tw_o (by omega)]
        exact to _ _ (by omega) (by omega) (by omega)
      · rw [tw_h]
        exact tn j hj
    · have := Nat.mul_le_mul_left 11440 (show k + 1 ≤ p - 1 by omega)
      omega
    · by_cases e : k = p
      · subst e
        refine (sg k _ (by omega) h10).tau ?_ (fun q j hq1 => ?_) (fun j hj => ?_)
        · rw [tw_o (by decide)]
          exact to _ _ (by omega) (by omega) (by omega)
        · rw [tw_o (by omega)]
          exact to _ _ (by omega) (by omega) (by omega)
        · rw [tw_h]
          exact tp j hj
      · refine mv k _ (by omega) ?_ (h12 k (by omega) k2)
        have := Nat.mul_le_mul_left 11440 (show p ≤ k - 1 by omega)
        omega
theorem pr_redo (h : HH q1 B W n K L F H tf gv U p l rg σ τ) (hN : 200000 < N) (hq : q1 + 7 ≤ 30) : p_X9_redo N τ ∧ (r_X1_stepOn σ).1 = (r_X9_redo N τ).1 ∧ ∃ p', HH q1 B W n K L F H tf gv U p' l rg (r_X1_stepOn σ).2 (r_X9_redo N τ).2 ∧ zfr 30 357 σ (r_X1_stepOn σ).2 ∧ (∀ q j, ¬ q = 498 → ¬ q = 469 → ¬ (q = 468 ∧ (j = 55 ∨ j = 56)) → (r_X9_redo N τ).2.1 q j = τ.1 q j) ∧ (r_X9_redo N τ).2.2 = τ.2 := by
  have hh := h
  obtain ⟨h1, h2, h3, h4, h5, h6, h7, h8, h9, h10, h11, h12⟩ := h
  by_cases c : p = l
  · have er : r_X9_redo N τ = (0, τ) := by
      unfold r_X9_redo
      rw [h5, c, Nat.sub_self]
      rfl
    have ec : r_X1_stepOn σ = (0, σ) := by
      unfold r_X1_stepOn
      rw [h2, h3, c, if_pos rfl]
    rw [er, ec]
    refine ⟨?_, rfl, p, hh, zfr.rf, fun _ _ _ _ _ => rfl, rfl⟩
    unfold p_X9_redo
    rw [h5, c, Nat.sub_self]
    exact fun z => absurd rfl z
  · have n0 : ¬ nI (l - p) = 0 := nI_ne0 (by omega) (by omega)
    have nl : ¬ nI p = nI l := fun z => c ((nI_eq (by omega) (by omega)).mp z)
    obtain ⟨w1, w2, w3, w4⟩ := rw_swap (N := N) (p := p) (by omega) 11440 0 τ (Nat.zero_add _) h4 N (by omega)
    have es : s_X9_swapAll N τ = l_X9_swapAll N N (nI 0) τ := rfl
    have er : r_X9_redo N τ = (1, zuI (zuI (l_X9_swapAll N N (nI 0) τ) 468 55 (nI (p + 1))) 468 56 (nI (l - p - 1))) := by
      unfold r_X9_redo u_X9_redo_3 u_X9_redo_2 u_X9_redo_1
      rw [h5, if_neg n0, es, w3 _ _ (by omega) (by omega), h4, nI_1, gI_n (by omega), w3 _ _ (by omega) (by omega), h5, nI_s1 (by omega)]
    have ec : r_X1_stepOn σ = (1, zuI σ 30 1 (nI (p + 1))) := by
      unfold r_X1_stepOn u_X1_stepOn_1
      rw [h2, h3, if_neg nl, nI_1]
    have pp : p_X9_redo N τ := fun _ => w1
    rw [er, ec]
    generalize l_X9_swapAll N N (nI 0) τ = τ0 at w2 w3 w4
    have to : ∀ q j, ¬ q = 498 → ¬ q = 469 → ¬ (q = 468 ∧ (j = 55 ∨ j = 56)) → (zuI (zuI τ0 468 55 (nI (p + 1))) 468 56 (nI (l - p - 1))).1 q j = τ.1 q j := fun q j z1 z2 z3 => by rw [gI_n (by omega), gI_n (by omega), w3 _ _ (by omega) (by omega)]
    have tn : ∀ j, j < 11440 → (zuI (zuI τ0 468 55 (nI (p + 1))) 468 56 (nI (l - p - 1))).1 469 j = τ.1 498 (11440 * p + j) := fun j hj => by rw [gI_n (by omega), gI_n (by omega), (w2 j (by omega) hj).1]
    have tp : ∀ j, j < 11440 → (zuI (zuI τ0 468 55 (nI (p + 1))) 468 56 (nI (l - p - 1))).1 498 (11440 * p + j) = τ.1 469 j := fun j hj => by rw [gI_n (by omega), gI_n (by omega), (w2 j (by omega) hj).2]
    have tq : ∀ j, ¬ (11440 * p ≤ j ∧ j < 11440 * p + 11440) → (zuI (zuI τ0 468 55 (nI (p + 1))) 468 56 (nI (l - p - 1))).1 498 j = τ.1 498 j := fun j hj => by rw [gI_n (by omega), gI_n (by omega), w3 _ _ (by omega) (by omega)]
    have t55 : (zuI (zuI τ0 468 55 (nI (p + 1))) 468 56 (nI (l - p - 1))).1 468 55 = nI (p + 1) := by rw [gI_n (by omega), gI_h rfl rfl]
    have t56 : (zuI (zuI τ0 468 55 (nI (p + 1))) 468 56 (nI (l - p - 1))).1 468 56 = nI (l - p - 1) := gI_h rfl rfl
    have w4' : (zuI (zuI τ0 468 55 (nI (p + 1))) 468 56 (nI (l - p - 1))).2 = τ.2 := w4
    generalize zuI (zuI τ0 468 55 (nI (p + 1))) 468 56 (nI (l - p - 1)) = τ1 at to tn tp tq t55 t56 w4'
    have sg : ∀ k τ2, k < 13 → RW q1 B W n K L F H tf gv U (rg k) σ τ2 → RW q1 B W n K L F H tf gv U (rg k) (zuI σ 30 1 (nI (p + 1))) τ2 := fun k τ2 hk g => by
      obtain ⟨cc, cc1, cc2⟩ := h6 k hk
      exact g.sig (fun q j hq1 => by rw [gI_n (by omega)]) (fun q j m1 m2 => rfl)
    have mv : ∀ k o, k < 13 → (o + 11440 ≤ 11440 * p ∨ 11440 * p + 11440 ≤ o) → RW q1 B W n K L F H tf gv U (rg k) σ (tw τ 498 o) → RW q1 B W n K L F H tf gv U (rg k) (zuI σ 30 1 (nI (p + 1))) (tw τ1 498 o) := fun k o hk ho g => by
      refine (sg k _ hk g).tau ?_ (fun q j hq1 => ?_) (fun j hj => ?_)
      · rw [tw_o (by decide), tw_o (by decide)]
        exact to _ _ (by omega) (by omega) (by omega)
      · rw [tw_o (by omega), tw_o (by omega)]
        exact to _ _ (by omega) (by omega) (by omega)
      · rw [tw_h, tw_h]
        exact tq _ (by omega)
    refine ⟨pp, rfl, p + 1, ⟨by omega, gI_h rfl rfl, (gI_n (by omega)).trans h3, t55, by rw [t56]; congr 1, h6, h7, h8, h9, ?_, fun k hk => ?_, fun k k1 k2 => mv k _ (by omega) ?_ (h12 k (by omega) k2)⟩, fun q hq1 => ⟨funext fun j => gI_n (by omega), rfl⟩, to, w4'⟩
    · refine (sg (p + 1) _ (by omega) (h12 (p + 1) (by omega) (by omega))).tau ?_ (fun q j hq1 => ?_) (fun j hj => ?_)
      · rw [tw_o (by decide)]
        exact to _ _ (by omega) (by omega) (by omega)
      · rw [tw_o (by omega)]
        exact to _ _ (by omega) (by omega) (by omega)
      · rw [tw_h]
        exact tn j hj
    · by_cases e : k = p
      · subst e
        refine (sg k _ (by omega) h10).tau ?_ (fun q j hq1 => ?_) (fun j hj => ?_)
        · rw [tw_o (by decide)]
          exact to _ _ (by omega) (by omega) (by omega)
        · rw [tw_o (by omega)]
          exact to _ _ (by omega) (by omega) (by omega)
        · rw [tw_h]
          exact tp j hj
      · refine mv k _ (by omega) ?_ (h11 k (by omega))
        have := Nat.mul_le_mul_left 11440 (show k + 1 ≤ p by omega)
        omega
    · have := Nat.mul_le_mul_left 11440 (show p + 1 ≤ k - 1 by omega)
      omega
end HS
