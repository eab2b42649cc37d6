/-! what would come -/
section IS
variable {q1 q2 B W n L F U U1 r p l N : Nat} {K : aK} {H tf rg : Nat → Nat} {gv : Nat → Nat → Int32} {σ σ1 σ2 τ τ1 τ2 : zS} {x1 x2 x3 x4 x5 x6 : Int32}
theorem i32_diff (x y x0 y0 a b : Int32) : (x * a + y * b) - (x0 * a + y0 * b) = (x - x0) * a + (y - y0) * b := by grind
theorem i32_back (x y : Int32) : x + y - x = y := by grind
/-- the row put aside, and brought back -/
theorem rf_aside (hN : 200000 < N) : p_X9_putAside N τ ∧ (∀ j, j < 11440 → (s_X9_putAside N τ).1 497 j = τ.1 469 j) ∧ (∀ q j, ¬ q = 497 → (s_X9_putAside N τ).1 q j = τ.1 q j) ∧ (s_X9_putAside N τ).2 = τ.2 := by
  obtain ⟨w, hw⟩ : ∃ w, N = w + 11441 := ⟨N - 11441, by omega⟩
  obtain ⟨τ1, i1, i2, i3, i4, i5⟩ := rw_aside (N := N) 11440 0 τ (Nat.zero_add _) N w (by omega)
  have es : s_X9_putAside N τ = τ1 := i1
  rw [es]
  exact ⟨i2 trivial, fun j hj => i3 j (by omega) hj, fun q j hq => i4 q j (by omega), i5⟩
theorem rf_bring (hN : 200000 < N) : p_X9_bringBack N τ ∧ (∀ j, j < 11440 → (s_X9_bringBack N τ).1 469 j = τ.1 497 j) ∧ (∀ q j, ¬ (q = 469 ∧ j < 11440) → (s_X9_bringBack N τ).1 q j = τ.1 q j) ∧ (s_X9_bringBack N τ).2 = τ.2 := by
  obtain ⟨w, hw⟩ : ∃ w, N = w + 11441 := ⟨N - 11441, by omega⟩
  obtain ⟨τ1, i1, i2, i3, i4, i5⟩ := rw_bring (N := N) 11440 0 τ (Nat.zero_add _) N w (by omega)
  have es : s_X9_bringBack N τ = τ1 := i1
  rw [es]
  exact ⟨i2 trivial, fun j hj => i3 j (by omega) hj, fun q j hq => i4 q j (by omega), i5⟩
/-- the ring at hand copied into the one for trials, the row put aside -/
theorem pr_trial (h : IV q1 q2 B W n K L F H tf gv p l rg U σ τ) (hN : 200000 < N) {A : Nat → Int32} {D RS TP ST : Nat → Nat} {C : Nat → aC} {T M : Nat} (g3 : RX 0 1 0 (rg p) q1 B W n K L F H tf gv 0 0 0 T M σ τ A D RS TP ST C) : p_X4_copyFrom 359 (rg p) N σ ∧ RX 0 1 0 359 q1 B W n K L F H tf gv 0 0 0 T M (s_X4_copyFrom 359 (rg p) N σ) (s_X9_putAside N τ) A D RS TP ST C ∧ zfr 359 384 σ (s_X4_copyFrom 359 (rg p) N σ) ∧ (∀ q j, ¬ (j = 4 ∧ 364 ≤ q ∧ q < 384) → (s_X4_copyFrom 359 (rg p) N σ).2 q j = σ.2 q j) := by
  have hq := h.pr.2.2
  obtain ⟨-, b2, b3, b4⟩ := rf_aside (τ := τ) hN
  obtain ⟨c, cc1, cc2⟩ := h.2.2.2.2.2.2.1.2.2.2.2.2.1 p (by have := h.2.2.2.2.2.2.1.1; omega)
  obtain ⟨a1, a2, a3, a4⟩ := g3.cop (N := N) (r := 359) (by omega) Rly.trial (by omega) (by omega) h.2.2.2.2.2.2.2.2.1.2.1
  exact ⟨a1, a2.tau (b3 _ _ (by decide)) (fun q j z => b3 _ _ (by omega)) (fun j hj => b3 _ _ (by decide)), a3, a4⟩
/-- behind a trial all is as it was -/
theorem IV.trial (h : IV q1 q2 B W n K L F H tf gv p l rg U σ τ) (hN : 200000 < N) (ha : ∀ j, j < 11440 → τ2.1 497 j = τ.1 469 j) (hs : ∀ q, ¬ scC q → σ1.1 q = σ.1 q ∧ σ1.2 q = σ.2 q) (hc : CL σ1) (h2 : ∀ q j, ¬ q = 469 → ¬ (492 ≤ q ∧ q ≤ 497) → ¬ (q = 468 ∧ 41 ≤ j ∧ j ≤ 48) → τ2.1 q j = τ.1 q j) (h2r : τ2.2 = τ.2) : p_X9_bringBack N τ2 ∧ IV q1 q2 B W n K L F H tf gv p l rg U σ1 (s_X9_bringBack N τ2) ∧ zfr 468 501 τ (s_X9_bringBack N τ2) ∧ (∀ q j, ¬ ((492 ≤ q ∧ q ≤ 497) ∨ (q = 468 ∧ 41 ≤ j ∧ j ≤ 48) ∨ (q = 469 ∧ 11440 ≤ j)) → (s_X9_bringBack N τ2).1 q j = τ.1 q j) := by
  obtain ⟨b1, b2, b3, b4⟩ := rf_bring (τ := τ2) hN
  have key : ∀ q j, ¬ ((492 ≤ q ∧ q ≤ 497) ∨ (q = 468 ∧ 41 ≤ j ∧ j ≤ 48) ∨ (q = 469 ∧ 11440 ≤ j)) → (s_X9_bringBack N τ2).1 q j = τ.1 q j := fun q j z => by
    by_cases e : q = 469
    · subst e
      rw [b2 j (by omega), ha j (by omega)]
    · rw [b3 q j (by omega), h2 q j e (by omega) (by omega)]
  refine ⟨b1, h.scr hs hc (fun q j z => ?_), fun q hq1 => ⟨funext fun j => key q j (by omega), by rw [b4, h2r]⟩, key⟩
  have : ¬ ((q = 469 ∧ ((216 ≤ j ∧ j < 236) ∨ 11440 ≤ j)) ∨ (492 ≤ q ∧ q ≤ 497) ∨ (q = 468 ∧ 41 ≤ j ∧ j ≤ 48)) := z
  exact key q j (by omega)
theorem CL.trial (h : CL σ) (fs : zfr 359 384 σ σ1) (hp : ∀ v, v < 4 → σ1.2 (359 + 4) v = 359 + 5 + 5 * v + 1) : CL σ1 := ⟨fun b hb => (fs.at2 (by omega)).trans (h.1 b hb), hp, fun b hb v hv => (fs.at2 (by omega)).trans (h.2.2.1 b hb v hv), fun i hi => ⟨(fs.at2 (by omega)).trans (h.2.2.2.1 i hi).1, (fs.at2 (by omega)).trans (h.2.2.2.1 i hi).2⟩, (fs.at2 (by omega)).trans h.2.2.2.2⟩
theorem pr_would (h : Inv U σ τ) (hN : 200000 < N) (hU : U ≤ 300000) : PR2 U (p_X8_would x1 x2 x3 N σ) (p_X9_would x1 x2 x3 N τ) (r_X8_would x1 x2 x3 N σ) (r_X9_would x1 x2 x3 N τ) σ τ := by
  have hI := h
  obtain ⟨q1, q2, B, W, n, K, L, F, H, tf, gv, p, l, rg, h⟩ := h
  have n10 : ¬ (1 : Int32) = 0 := by decide
  have hpr := h.pr
  have hq := hpr.2.2
  by_cases c : f_X8_handlerCanBe x1 x2 = 0
  · refine pr_same hI (Nat.le_refl _) (fun y => absurd c y) (fun y => absurd (hc_way.trans c) y) (x := -1) (y := -1) ?_ ?_ rfl
    · unfold r_X8_would
      rw [if_pos c]
    · unfold r_X9_would
      rw [hc_way, if_pos c]
  · have hm : (x3 < 0 ∨ (¬ x3 < 0 ∧ 3 < x3)) → f_X9_isIn x3 0 3 = 0 → PR2 U (p_X8_would x1 x2 x3 N σ) (p_X9_would x1 x2 x3 N τ) (r_X8_would x1 x2 x3 N σ) (r_X9_would x1 x2 x3 N τ) σ τ := fun z e => by
      refine pr_same hI (Nat.le_refl _) ?_ (fun _ y => absurd e y) (x := -1) (y := -1) ?_ ?_ rfl
      · rcases z with z | ⟨z0, z⟩
        · exact fun _ y => absurd z y
        · exact fun _ _ y => absurd y (Int32.not_le.mpr z)
      · unfold r_X8_would
        rcases z with z | ⟨z0, z⟩
        · rw [if_neg c, if_pos z]
        · rw [if_neg c, if_neg z0, if_neg (Int32.not_le.mpr z)]
      · unfold r_X9_would
        rw [hc_way, if_neg c, e, if_pos rfl]
    by_cases c0 : x3 < 0
    · exact hm (Or.inl c0) (isIn_lo c0)
    · by_cases c1 : 3 < x3
      · exact hm (Or.inr ⟨c0, c1⟩) (isIn_hi c1)
      · have ei : f_X9_isIn x3 0 3 = 1 := isIn_in c0 c1
        obtain ⟨A, D, RS, TP, ST, C, T, M, E, g1, g2, ⟨cc, cc1, cc2⟩, g3, ⟨gT, gM, gE, -⟩, gA, -⟩ := h.get
        obtain ⟨t1, t2, t3, t4⟩ := pr_trial h hN g3
        obtain ⟨a1, a2, a3, a4⟩ := rf_aside (τ := τ) hN
        obtain ⟨w1, w2, w3, w4, w5, w6, w7⟩ := pr_way (N := N) t2 (by omega) c
        obtain ⟨y1, y2, y3, i, A2, D2, RS2, TP2, ST2, C2, T2, M2, j1, j2, j3, j4, j5, j6, j7, j8, j9, j10, -⟩ := pr_play (N := N) (m := 0) (by omega) 3000 3000 0 0 T M _ _ _ D RS TP ST C w3 (by omega) (by omega) (by omega) (fun q => absurd q (by decide)) N N (by omega) (by omega)
        have u1 : u_X8_would_1 x1 x2 x3 N σ = s_X4_copyFrom 359 (rg p) N σ := by
          unfold u_X8_would_1
          rw [g1]
        have u2 : u_X8_would_2 x1 x2 x3 N σ = s_X4_changeHandler 359 x1 x2 N (s_X4_copyFrom 359 (rg p) N σ) := by
          unfold u_X8_would_2
          rw [u1]
        have e5 : (s_X4_changeHandler 359 x1 x2 N (s_X4_copyFrom 359 (rg p) N σ)).2 0 5 = σ.2 0 5 := by rw [w6, t4 _ _ (by omega)]
        have u3 : u_X8_would_3 x1 x2 x3 N σ = (l_X4_playOn 359 q1 N N (nI 3000) (nI 0) (s_X4_changeHandler 359 x1 x2 N (s_X4_copyFrom 359 (rg p) N σ))).2 := by
          unfold u_X8_would_3
          rw [u2, e5, hpr.1]
          rfl
        have v1 : u_X9_would_2 x1 x2 x3 N τ = s_X9_setWay x1 x2 N (s_X9_putAside N τ) := rfl
        have v3 : r_X9_goEvents 3000 N (s_X9_setWay x1 x2 N (s_X9_putAside N τ)) = l_X9_goEvents N N (nI 3000) (nI 0) (s_X9_setWay x1 x2 N (s_X9_putAside N τ)) := rfl
        have v4 : u_X9_would_3 x1 x2 x3 N τ = (l_X9_goEvents N N (nI 3000) (nI 0) (s_X9_setWay x1 x2 N (s_X9_putAside N τ))).2 := rfl
        have v5 : u_X9_would_4 x1 x2 x3 N τ = s_X9_bringBack N (l_X9_goEvents N N (nI 3000) (nI 0) (s_X9_setWay x1 x2 N (s_X9_putAside N τ))).2 := rfl
        generalize hσ3 : (l_X4_playOn 359 q1 N N (nI 3000) (nI 0) (s_X4_changeHandler 359 x1 x2 N (s_X4_copyFrom 359 (rg p) N σ))) = rσ at u3 y3 j2 j9
        generalize hτ3 : l_X9_goEvents N N (nI 3000) (nI 0) (s_X9_setWay x1 x2 N (s_X9_putAside N τ)) = rτ at v3 v4 v5 y3 j2 j3 j10
        have fs : zfr 359 384 σ rσ.2 := (t3.tr w4).tr j9
        have hcl : CL rσ.2 := h.2.2.2.2.2.2.2.2.1.trial fs j2.2.1.2.2
        have m497 : ∀ j, j < 11440 → rτ.2.1 497 j = τ.1 469 j := fun j hj => by rw [j10.2 _ _ (fun z => by unfold sYa at z; omega), w5.2 _ _ (fun z => by unfold sN at z; omega), a2 j hj]
        obtain ⟨z1, z2, z3, -⟩ := h.trial (N := N) (σ1 := rσ.2) (τ2 := rτ.2) hN m497 (fun q hq1 => fs q (by have : ¬ ((359 ≤ q ∧ q < 394) ∨ (444 ≤ q ∧ q < 468)) := hq1; omega)) hcl (fun q j z1 z2 z3 => by rw [j10.2 _ _ (fun z => by unfold sYa at z; omega), w5.2 _ _ (fun z => by unfold sN at z; omega), a3 _ _ (by omega)]) (by rw [j10.1, w5.1, a4])
        have hI' : Inv U rσ.2 (s_X9_bringBack N rτ.2) := ⟨q1, q2, B, W, n, K, L, F, H, tf, gv, p, l, rg, z2⟩
        obtain ⟨k1, k2, k3, k4⟩ := j2.cost
        obtain ⟨o1, o2, o3, o4⟩ := g3.cost
        have nk : ∀ j, rσ.2.1 (rg p) j = σ.1 (rg p) j := fun j => fs.at (by omega)
        have kn : f_X4_cost (rg p) rσ.2 = A 1 * A 8 + A 2 * A 9 := by
          have : f_X4_cost (rg p) rσ.2 = f_X4_cost (rg p) σ := by
            unfold f_X4_cost
            rw [nk, nk, nk, nk]
          rw [this, o1, o4]
        have m8 : A2 8 = A 8 := (j7 8 (by omega) (by omega)).trans (w7 8 (by omega) (by omega) (by omega))
        have m9 : A2 9 = A 9 := (j7 9 (by omega) (by omega)).trans (w7 9 (by omega) (by omega) (by omega))
        have m0 : A2 0 = A 0 + nI i := by rw [j6, w7 0 (by omega) (by omega) (by omega)]
        have b7 := j2.2.2.2.2.2.2.1
        have c7 := g3.2.2.2.2.2.2.1
        have r1 : rτ.2.1 497 1 = A 1 := (m497 1 (by omega)).trans (c7 1 (by omega))
        have r2 : rτ.2.1 497 2 = A 2 := (m497 2 (by omega)).trans (c7 2 (by omega))
        have p5 : ((s_X4_changeHandler 359 x1 x2 N (s_X4_copyFrom 359 (rg p) N σ)).2 0 5 ≠ 0 ∧ zlay ((s_X4_changeHandler 359 x1 x2 N (s_X4_copyFrom 359 (rg p) N σ)).2 0 5 - 1) = (2, 16)) := by rw [e5]; exact hpr.2.1
        refine ⟨fun _ _ _ => ⟨g2, by rw [g1]; exact t1, by rw [u1]; exact w1, by rw [u2]; exact p5, ?_⟩, fun _ _ => ⟨a1, w2, y2, by rw [v4]; exact z1⟩, ?_⟩
        · rw [u2, e5, hpr.1]
          exact y1
        · unfold r_X8_would r_X9_would f_X9_camesBy
          rw [hc_way, if_neg c, if_neg c, if_neg c0, if_pos (Int32.not_lt.mp c1), ei, if_neg n10, u3, v5, v4, v1, v3, g1]
          by_cases d0 : x3 = 0
          · rw [if_pos d0, if_pos d0]
            refine ⟨?_, hI', fs.wk (by omega), z3⟩
            show f_X4_cost 359 rσ.2 - f_X4_cost (rg p) rσ.2 = _
            rw [k1, k4, kn, b7 1 (by omega), b7 2 (by omega), b7 8 (by omega), b7 9 (by omega), r1, r2, m8, m9]
            exact i32_diff _ _ _ _ _ _
          · rw [if_neg d0, if_neg d0]
            by_cases d1 : x3 = 1
            · rw [if_pos d1, if_pos d1]
              refine ⟨?_, hI', fs.wk (by omega), z3⟩
              show rσ.2.1 359 10 - rσ.2.1 (rg p) 10 = rτ.2.1 469 1 - rτ.2.1 497 1
              rw [nk, k2, o2, b7 1 (by omega), r1]
            · rw [if_neg d1, if_neg d1]
              by_cases d2 : x3 = 2
              · rw [if_pos d2, if_pos d2]
                refine ⟨?_, hI', fs.wk (by omega), z3⟩
                show rσ.2.1 359 11 - rσ.2.1 (rg p) 11 = rτ.2.1 469 2 - rτ.2.1 497 2
                rw [nk, k3, o3, b7 2 (by omega), r2]
              · rw [if_neg d2, if_neg d2]
                refine ⟨?_, hI', fs.wk (by omega), z3⟩
                show rσ.2.1 359 9 - rσ.2.1 (rg p) 9 = rτ.1
                rw [nk, j2.2.2.1 _ 9 0 (lk_g (by omega)), g3.2.2.1 _ 9 0 (lk_g (by omega)), m0, i32_back, j3, Nat.zero_add]
/-! the law -/
theorem pr_astray {A : Nat → Int32} {D RS TP ST : Nat → Nat} {C : Nat → aC} {T M : Nat} (g3 : RX 0 1 0 r q1 B W n K L F H tf gv 0 0 0 T M σ τ A D RS TP ST C) : ∀ (m k : Nat) (v : Int32), k + m = W → ∀ z, m < z → q_X4_windowsAstray r N z v (nI k) σ ∧ l_X4_windowsAstray r N z v (nI k) σ = v := by
  have hW := g3.2.2.2.2.2.2.2.1.1
  have hs := g3.2.1.1
  intro m
  induction m with
  | zero =>
    intro k v hk z hz
    obtain ⟨z, rfl⟩ : ∃ q, z = q + 1 := ⟨z - 1, by omega⟩
    have c : nI W ≤ nI k := nI_le (by omega) (by omega)
    rw [q_X4_windowsAstray, l_X4_windowsAstray, hs, if_pos c]
    exact ⟨fun q => absurd c q, rfl⟩
  | succ m ih =>
    intro k v hk z hz
    obtain ⟨z, rfl⟩ : ∃ q, z = q + 1 := ⟨z - 1, by omega⟩
    have c : ¬ nI W ≤ nI k := nI_ge (by omega) (by omega)
    have hk12 : k < 12 := by omega
    obtain ⟨i1, i2⟩ := ih (k + 1) v (by omega) z (by omega)
    rw [q_X4_windowsAstray, l_X4_windowsAstray, hs, if_neg c, at_i hk12 (by decide), at_i hk12 (by decide), g3.2.2.1 _ _ _ (lk_o hk12), g3.2.2.1 _ _ _ (lk_f hk12), nI_1]
    rcases g3.2.2.2.2.2.2.2.1.2.2.1.1 k (by omega) with y | ⟨t, f, y1, y2, y3, y4⟩
    · rw [if_pos y]
      exact ⟨fun _ => ⟨at_p (by decide), fun _ => i1, fun q => absurd y q⟩, i2⟩
    · have ny : ¬ A (12 + k) = -1 := by rw [y3]; exact m1_ne y1
      obtain ⟨o1, o2⟩ := g3.2.2.2.2.2.2.2.1.2.2.1.2 t f y1 y2
      rw [← y4] at o2
      obtain ⟨w1, w2, w3, w4, w5, w6, w7, w8, -⟩ := g3.2.2.2.2.2.2.2.1.2.1 t y1
      rcases pr_where0 (f := D t - f) g3 y1 (by omega) with ⟨k1, k2, k3⟩ | ⟨k1, k2, k3, k4, k5, k6⟩
      · omega
      · rw [show D t - (D t - f) = f by omega] at k4
        rw [if_neg ny, y3, o2, k4, y4, if_pos rfl]
        rw [← y4]
        exact ⟨fun _ => ⟨at_p (by decide), fun q => absurd q (m1_ne y1), fun _ => ⟨at_p (by decide), at_p (by decide), tk_p g3.1.1 g3.2.1.2.2 y1, fun _ => i1, fun q => absurd rfl q⟩⟩, i2⟩
theorem rf_astray {A : Nat → Int32} {D RS TP ST : Nat → Nat} {C : Nat → aC} {T M : Nat} (hzz : ∀ v, n ≤ v → v < 4 → ST v = 0) (h : IV q1 q2 B W n K L F H tf gv p l rg U σ τ) (g3 : RX 0 1 0 (rg p) q1 B W n K L F H tf gv 0 0 0 T M σ τ A D RS TP ST C) : ∀ (m k : Nat) (v : Int32), k + m = W → ∀ z, m < z → q_X9_law N z 1 v (nI k) τ ∧ l_X9_law N z 1 v (nI k) τ = (v, τ) := by
  have hW := g3.2.2.2.2.2.2.2.1.1
  obtain ⟨e1, e2⟩ := f9_win g3.2.2.2.2.2.1.1 g3.2.2.2.2.2.1.2.1 g3.2.2.2.2.2.1.2.2.1
  have b7 := g3.2.2.2.2.2.2.1
  have z0 : ∀ x : Int32, x + 0 = x := fun x => by simp
  intro m
  induction m with
  | zero =>
    intro k v hk z hz
    obtain ⟨z, rfl⟩ : ∃ q, z = q + 1 := ⟨z - 1, by omega⟩
    have c : nI W ≤ nI k := nI_le (by omega) (by omega)
    rw [q_X9_law, l_X9_law, e1, if_pos c]
    exact ⟨⟨e2, fun q => absurd c q⟩, rfl⟩
  | succ m ih =>
    intro k v hk z hz
    obtain ⟨z, rfl⟩ : ∃ q, z = q + 1 := ⟨z - 1, by omega⟩
    have c : ¬ nI W ≤ nI k := nI_ge (by omega) (by omega)
    have hk12 : k < 12 := by omega
    obtain ⟨i1, i2⟩ := ih (k + 1) v (by omega) z (by omega)
    obtain ⟨f1, f2⟩ := rf_free (w := k) (τ := τ) hk12
    have m12 : (12 : Int32) + nI k = nI (12 + k) := nI_add 12 k
    have m24 : (24 : Int32) + nI k = nI (24 + k) := nI_add 24 k
    rw [q_X9_law, l_X9_law, e1, if_neg c, f1, m12, m24, nI_clamp (by omega), nI_clamp (by omega), b7 _ (by omega), b7 _ (by omega), nI_1, z0]
    rcases g3.2.2.2.2.2.2.2.1.2.2.1.1 k (by omega) with y | ⟨t, f, y1, y2, y3, y4⟩
    · rw [if_pos y, if_neg (by decide)]
      exact ⟨⟨e2, fun _ => ⟨f2, fun _ => i1, fun q => absurd q (by decide)⟩⟩, i2⟩
    · have ny : ¬ A (12 + k) = -1 := by rw [y3]; exact m1_ne y1
      obtain ⟨o1, o2⟩ := g3.2.2.2.2.2.2.2.1.2.2.1.2 t f y1 y2
      rw [← y4] at o2
      obtain ⟨w1, w2, w3, w4, w5, w6, w7, w8, -⟩ := g3.2.2.2.2.2.2.2.1.2.1 t y1
      have wh : p_X9_where (nI t) (nI (D t - f)) τ ∧ f_X9_where (nI t) (nI (D t - f)) τ = nI k := by
        obtain ⟨i1', i2', i3'⟩ := isT (x := nI t) h
        have hn4 := g3.2.2.2.2.2.2.2.2.2.2.1.2.2.2.1
        rcases i3' with ⟨u1, u2⟩ | ⟨t', ht', et, u1, u2⟩
        · -- a task that holds a window is one of the store's
          exfalso
          have hS : ST t = 1 := w8.mpr (by omega)
          have htn : t < n := by
            apply Classical.byContradiction
            intro w
            have := hzz t (by omega) y1
            omega
          have hi := (inN (x := nI t) (n := n) (by omega))
          have em : f_X9_isTask (nI t) τ = f_X9_isIn (nI t) 0 (nI n - 1) := by
            unfold f_X9_isTask
            rw [(rf_many g3.2.2.2.2.2.1).1]
          rw [em] at u2
          rcases hi with ⟨-, a | ⟨-, a⟩⟩ | ⟨j, -, -, a⟩
          · exact nI_pos (by omega) a
          · exact nI_ge htn (by omega) a
          · rw [u2] at a
            exact absurd a (by decide)
        · obtain ⟨f1', f2', f3', f4'⟩ := isF (x2 := nI (D t - f)) g3 y1 u2 i2'
          obtain ⟨-, e4, -, e6, -⟩ := rf_frm b7 y1
          rcases f4' with ⟨u3, u4⟩ | ⟨f'', u3, u4, u5, u6⟩
          · exfalso
            rcases u4 with u4 | ⟨-, u4⟩
            · exact nI_nlt (b := 1) (show 1 ≤ D t - f by omega) (by omega) u4
            · exact nI_nlt (a := D t) (b := D t - f) (by omega) (by omega) u4
          · rcases pr_where0 (f := D t - f) g3 y1 (by omega) with ⟨k1, k2, k3⟩ | ⟨k1, k2, k3, k4, k5, k6⟩
            · omega
            · rw [show D t - (D t - f) = f by omega] at k5
              unfold p_X9_where f_X9_where
              rw [u6, if_neg (by decide), if_neg k1, k5, ← y4]
              exact ⟨⟨f1', fun _ => ⟨e4, e6, fun _ => k3⟩⟩, rfl⟩
      rw [if_neg ny, if_pos rfl, y3, o2, wh.2, if_pos rfl]
      exact ⟨⟨e2, fun _ => ⟨f2, fun q => absurd rfl q, fun _ => ⟨vp_in_nI (by omega) (by decide), vp_in_nI (by omega) (by decide), wh.1, fun _ => i1, fun q => absurd rfl q⟩⟩⟩, i2⟩
theorem pr_lawl (hN : 200000 < N) : ∀ (m k : Nat) (v : Int32) (σ τ : zS), k + m = n → IV q1 q2 B W n K L F H tf gv p l rg U σ τ → ∀ z y, m < z → m + 13 < y → q_X8_law N z (rg p) v (nI k) σ ∧ q_X9_law N y 0 v (nI k) τ ∧ (l_X8_law N z (rg p) v (nI k) σ).1 = (l_X9_law N y 0 v (nI k) τ).1 ∧ IV q1 q2 B W n K L F H tf gv p l rg U (l_X8_law N z (rg p) v (nI k) σ).2 (l_X9_law N y 0 v (nI k) τ).2 ∧ zfr 0 468 σ (l_X8_law N z (rg p) v (nI k) σ).2 ∧ zfr 468 501 τ (l_X9_law N y 0 v (nI k) τ).2 := by
  have z0 : ∀ x : Int32, x + 0 = x := fun x => by simp
  have n10 : ¬ (1 : Int32) = 0 := by decide
  intro m
  induction m with
  | zero =>
    intro k v σ τ hk h z y hz hy
    obtain ⟨z, rfl⟩ : ∃ q, z = q + 1 := ⟨z - 1, by omega⟩
    obtain ⟨y, rfl⟩ : ∃ q, y = q + 1 := ⟨y - 1, by omega⟩
    have hpr := h.pr
    obtain ⟨A, D, RS, TP, ST, C, T, M, E, g1, g2, -, g3, ⟨-, -, -, gz⟩, -⟩ := h.get
    have n4 := g3.2.2.2.2.2.2.2.2.2.2.1.2.2.2.1
    have hW := g3.2.2.2.2.2.2.2.1.1
    have e7 : σ.1 q1 7 = nI n := h.2.2.2.2.1.2.2.2.2.2.2.2.2.2.1
    obtain ⟨em, pm⟩ := rf_many g3.2.2.2.2.2.1
    have c : nI n ≤ nI k := nI_le (by omega) (by omega)
    obtain ⟨s1, s2⟩ := rf_astray (N := N) gz h g3 W 0 v (by omega) y (by omega)
    have s2 : l_X9_law N y 1 v 0 τ = (v, τ) := s2
    rw [q_X8_law, q_X9_law, l_X8_law, l_X9_law, hpr.1, e7, em, if_pos c, if_pos c, s2]
    exact ⟨⟨by rw [← hpr.1]; exact hpr.2.1, fun q => absurd c q⟩, ⟨pm, fun _ => s1, fun q => absurd c q⟩, rfl, h, zfr.rf, zfr.rf⟩
  | succ m ih =>
    intro k v σ τ hk h z y hz hy
    obtain ⟨z, rfl⟩ : ∃ q, z = q + 1 := ⟨z - 1, by omega⟩
    obtain ⟨y, rfl⟩ : ∃ q, y = q + 1 := ⟨y - 1, by omega⟩
    have hpr := h.pr
    obtain ⟨A, D, RS, TP, ST, C, T, M, E, g1, g2, ⟨cc, cc1, cc2⟩, g3, ⟨-, -, -, gz⟩, -⟩ := h.get
    have n4 := g3.2.2.2.2.2.2.2.2.2.2.1.2.2.2.1
    have e7 : σ.1 q1 7 = nI n := h.2.2.2.2.1.2.2.2.2.2.2.2.2.2.1
    obtain ⟨em, pm⟩ := rf_many g3.2.2.2.2.2.1
    have c : ¬ nI n ≤ nI k := nI_ge (by omega) (by omega)
    have k4 : k < 4 := by omega
    obtain ⟨w1, w2, -⟩ := g3.2.2.2.2.2.2.2.1.2.1 k k4
    have s1 : σ.1 (rg p + 5 + 5 * k) 1 = nI (ST k) := by
      rcases g3.2.2.2.2.2.2.2.2.2.2.2.2.2.1 k k4 with y | y
      · exact y
      · exact absurd y.1 (by decide)
    have tk := tk_eq g3.2.1.2.2 k4
    have pc := tk_p g3.1.1 g3.2.1.2.2 k4
    obtain ⟨-, -, -, -, e5, e6⟩ := rf_frm g3.2.2.2.2.2.2.1 k4
    have pl : (σ.2 0 5 ≠ 0 ∧ zlay q1 = (2, 16)) := by rw [← hpr.1]; exact hpr.2.1
    rw [q_X8_law, q_X9_law, l_X8_law, l_X9_law, hpr.1, e7, em, if_neg c, if_neg c, tk, s1, e5, w1, nI_1, z0]
    by_cases c2 : nI (ST k) = 2
    · obtain ⟨a1, a2, a3⟩ := pr_ft (x1 := nI k) h hN
      rcases a3 with ⟨e1, e2, e3⟩ | ⟨t, ht, et, e0, e1, e2, e3, -, e4, e5', e6', e7', e8⟩
      · exfalso
        have i3 := (isT (x := nI k) h).2.2
        rcases i3 with ⟨-, u⟩ | ⟨t, -, -, -, u⟩
        · have em' : f_X9_isTask (nI k) τ = f_X9_isIn (nI k) 0 (nI n - 1) := by
            unfold f_X9_isTask
            rw [em]
          rw [em'] at u
          rcases inN (x := nI k) (n := n) (by omega) with ⟨-, a | ⟨-, a⟩⟩ | ⟨j, -, -, a⟩
          · exact nI_pos (by omega) a
          · exact c a
          · rw [u] at a
            exact absurd a (by decide)
        · rw [e2] at u
          exact absurd u (by decide)
      · have et : t = k := ((nI_eq (by omega) (by omega)).mp et).symm
        subst et
        have h15 : (r_X8_followTask (nI t) N σ).2.1 (rg p + 5 + 5 * t + 1) 3 = A (147 + 20 * t) := by
          rw [(e4 (rg p + 5 + 5 * t + 1) (fun w => by unfold scC at w; omega)).1, show rg p + 5 + 5 * t + 1 = rg p + 6 + 5 * t by omega]
          exact g3.2.2.2.2.2.2.2.2.2.2.2.2.2.2.2.2.2.1 rfl rfl t k4 ((nI2 w2 2 (by omega)).mp c2)
        have h16 : (r_X9_goTaskPlain (nI t) N τ).2.1 469 (f_X9_atTask (nI t) 11).toNatClampNeg = A (147 + 20 * t) := by
          rw [at_11, nI_clamp (by omega), e7'.2 _ _ (fun w => by unfold sPl at w; omega), g3.2.2.2.2.2.2.1 _ (by omega)]
          congr 1
          omega
        have v11 : vp_in (f_X9_atTask (nI t) 11) 14241 := by rw [at_11]; exact vp_in_nI (by omega) (by decide)
        have u8 : u_X8_law_h0_1 N (rg p) v (nI t) σ = (r_X8_followTask (nI t) N σ).2 := rfl
        have u9 : u_X9_law_h0_1 N v (nI t) τ = (r_X9_goTaskPlain (nI t) N τ).2 := rfl
        have fz : zfr 468 501 τ (r_X9_goTaskPlain (nI t) N τ).2 := fun q hq1 => ⟨funext fun j => e7'.2 q j (sPl_z hq1), by rw [e7'.1]⟩
        rw [if_pos c2, if_pos c2, u8, u9, h15, h16]
        rcases e8 with ⟨y1, y2, -⟩ | ⟨y1, y2, k', y3⟩
        · obtain ⟨i1, i2, i3, i4, i5, i6⟩ := ih (t + 1) v _ _ (by omega) e3 z y (by omega) (by omega)
          rw [y1, y2, if_pos rfl, if_pos rfl]
          exact ⟨⟨pl, fun _ => ⟨pc, fun q => absurd c2 q, fun _ => ⟨a1, fun _ => i1, fun q => absurd rfl q⟩⟩⟩, ⟨pm, fun q => absurd q c, fun _ => ⟨e6, fun q => absurd c2 q, fun _ => ⟨e2, fun _ => i2, fun q => absurd rfl q⟩⟩⟩, i3, i4, e6'.tr i5, fz.tr i6⟩
        · have hk' := y3.k1 rfl
          have eo : (r_X8_followTask (nI t) N σ).2.1 385 3 = (r_X9_goTaskPlain (nI t) N τ).2.1 468 48 := by
            obtain ⟨-, -, x3', x4', -, x6', x7'⟩ := y3
            rw [x7', x4'.2.2.2.2.2.2.2.2.1 hk' x3', x6'.2.2.2.2.2.2.2.1 hk' x3']
          rw [y1, y2, if_neg n10, if_neg n10, eo]
          by_cases cq : (r_X9_goTaskPlain (nI t) N τ).2.1 468 48 = A (147 + 20 * t)
          · obtain ⟨i1, i2, i3, i4, i5, i6⟩ := ih (t + 1) v _ _ (by omega) e3 z y (by omega) (by omega)
            rw [if_pos cq, if_pos cq]
            exact ⟨⟨pl, fun _ => ⟨pc, fun q => absurd c2 q, fun _ => ⟨a1, fun q => absurd q n10, fun _ => ⟨fun _ => i1, fun q => absurd cq q⟩⟩⟩⟩, ⟨pm, fun q => absurd q c, fun _ => ⟨e6, fun q => absurd c2 q, fun _ => ⟨e2, fun q => absurd q n10, fun _ => ⟨v11, fun _ => i2, fun q => absurd cq q⟩⟩⟩⟩, i3, i4, e6'.tr i5, fz.tr i6⟩
          · obtain ⟨i1, i2, i3, i4, i5, i6⟩ := ih (t + 1) (v + 1) _ _ (by omega) e3 z y (by omega) (by omega)
            rw [if_neg cq, if_neg cq]
            exact ⟨⟨pl, fun _ => ⟨pc, fun q => absurd c2 q, fun _ => ⟨a1, fun q => absurd q n10, fun _ => ⟨fun q => absurd q cq, fun _ => i1⟩⟩⟩⟩, ⟨pm, fun q => absurd q c, fun _ => ⟨e6, fun q => absurd c2 q, fun _ => ⟨e2, fun q => absurd q n10, fun _ => ⟨v11, fun q => absurd q cq, fun _ => i2⟩⟩⟩⟩, i3, i4, e6'.tr i5, fz.tr i6⟩
    · obtain ⟨i1, i2, i3, i4, i5, i6⟩ := ih (k + 1) v σ τ (by omega) h z y (by omega) (by omega)
      rw [if_neg c2, if_neg c2]
      exact ⟨⟨pl, fun _ => ⟨pc, fun _ => i1, fun q => absurd q c2⟩⟩, ⟨pm, fun q => absurd q c, fun _ => ⟨e6, fun _ => i2, fun q => absurd q c2⟩⟩, i3, i4, i5, i6⟩
theorem pr_law (h : Inv U σ τ) (hN : 200000 < N) : PR2 U (p_X8_law N σ) (p_X9_law N τ) (r_X8_law N σ) (r_X9_law N τ) σ τ := by
  obtain ⟨q1, q2, B, W, n, K, L, F, H, tf, gv, p, l, rg, h⟩ := h
  obtain ⟨A, D, RS, TP, ST, C, T, M, E, g1, g2, -, g3, -⟩ := h.get
  have hW := g3.2.2.2.2.2.2.2.1.1
  have n4 := g3.2.2.2.2.2.2.2.2.2.2.1.2.2.2.1
  obtain ⟨s1, s2⟩ := pr_astray (N := N) g3 W 0 0 (by omega) N (by omega)
  obtain ⟨i1, i2, i3, i4, i5, i6⟩ := pr_lawl (N := N) hN n 0 0 σ τ (by omega) h N N (by omega) (by omega)
  have es : f_X4_windowsAstray (rg p) N σ = 0 := s2
  have ec : r_X8_law N σ = l_X8_law N N (rg p) 0 (nI 0) σ := by
    unfold r_X8_law
    rw [g1, es]
    rfl
  have er : r_X9_law N τ = l_X9_law N N 0 0 (nI 0) τ := rfl
  unfold PR2
  rw [ec, er]
  refine ⟨⟨g2, ?_, ?_⟩, i2, i3, ⟨q1, q2, B, W, n, K, L, F, H, tf, gv, p, l, rg, i4⟩, i5, i6⟩
  · rw [g1]
    exact s1
  · rw [g1, es]
    exact i1
end IS
