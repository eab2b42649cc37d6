/-! traps told, facts told; acts -/
section IS
variable {q1 q2 B W n L F U U1 r p l N : Nat} {K : aK} {H tf rg : Nat → Nat} {gv : Nat → Nat → Int32} {σ σ1 σ2 τ τ1 τ2 : zS} {x1 x2 x3 : Int32}
theorem pr_trap (h : Inv U σ τ) (hU : U ≤ 300000) : p_X8_trap x1 x2 σ ∧ p_X9_trap x1 x2 τ ∧ f_X8_trap x1 x2 σ = f_X9_trap x1 x2 τ := by
  obtain ⟨q1, q2, B, W, n, K, L, F, H, tf, gv, p, l, rg, h⟩ := h
  obtain ⟨A, D, RS, TP, ST, C, T, M, E, g1, g2, -, g3, ⟨gT, -, gE, -⟩, -⟩ := h.get
  have n10 : ¬ (1 : Int32) = 0 := by decide
  obtain ⟨a1, a2, a3, ⟨o1, o2, o3, o4, o5⟩, -, a6, a7, a8, -⟩ := g3
  obtain ⟨o5, o6⟩ := o5 rfl
  unfold p_X8_trap p_X9_trap f_X8_trap f_X9_trap
  rw [g1, o1, a7 11 (by omega), o5]
  have key := inN (x := x1) (n := if T < 20 then T else 20) (by split <;> omega)
  have eqs : (x1 < 0 ∨ (¬ x1 < 0 ∧ nI (if T < 20 then T else 20) ≤ x1)) → (if x1 < 0 then (-1 : Int32) else if 20 ≤ x1 then -1 else if nI T ≤ x1 then -1 else if x2 < 0 then -1 else if x2 < 5 then f_X8_at 100 (rg p + 3) ((nI T - 1 - x1 - (nI T - 1 - x1) / 20 * 20) * 5 + x2) σ else -1) = -1 := fun z => by
    by_cases c0 : x1 < 0
    · rw [if_pos c0]
    · rw [if_neg c0]
      by_cases c1 : 20 ≤ x1
      · rw [if_pos c1]
      · rw [if_neg c1, if_pos]
        rcases z with z | ⟨-, z⟩
        · exact absurd z c0
        · by_cases cT : T < 20
          · rw [if_pos cT] at z
            exact z
          · rw [if_neg cT] at z
            exact absurd z c1
  refine ⟨⟨g2, fun _ _ _ _ _ => at_p (by decide)⟩, ?_⟩
  rcases key with ⟨e, z⟩ | ⟨i, hi, rfl, e⟩
  · rw [eqs z, e, if_pos rfl]
    exact ⟨fun y => absurd rfl y, rfl⟩
  · have hi' : i < 20 ∧ i < T := by
      by_cases cT : T < 20
      · rw [if_pos cT] at hi
        omega
      · rw [if_neg cT] at hi
        omega
    rw [e, if_neg n10, if_neg (nI_pos (by omega)), if_neg (show ¬ (20 : Int32) ≤ nI i from nI_ge (b := 20) hi'.1 (by decide)), if_neg (nI_ge hi'.2 (by omega))]
    rcases pk_ix x2 (n := 5) (by decide) with y | y | ⟨k, hk, rfl⟩
    · rw [isIn_lo y, if_pos rfl, if_pos y]
      exact ⟨fun _ z => absurd rfl z, rfl⟩
    · rw [isIn_hi (Int32.lt_of_lt_of_le (show (4 : Int32) < 5 by decide) y), if_pos rfl]
      refine ⟨fun _ z => absurd rfl z, ?_⟩
      by_cases c : x2 < 0
      · rw [if_pos c]
      · rw [if_neg c, if_neg (show ¬ x2 < 5 from Int32.not_lt.mpr y)]
    · have e4 : f_X9_isIn (nI k) 0 4 = 1 := isIn_in (nI_pos (by omega)) (nI_nlt (a := 4) (by omega) (by decide))
      have ei : (36 : Int32) + 5 * nI i + nI k = nI (36 + 5 * i + k) := by rw [(show (36 : Int32) = nI 36 from rfl), (show (5 : Int32) = nI 5 from rfl), pk_mul, nI_add, nI_add]
      have hm : (T - 1 - i) % 20 < 20 := Nat.mod_lt _ (by decide)
      have ej : (nI T - 1 - nI i - (nI T - 1 - nI i) / 20 * 20) * 5 + nI k = nI ((T - 1 - i) % 20 * 5 + k) := by
        rw [nI_s1 (by omega), pk_sub (by omega), (show (20 : Int32) = nI 20 from rfl), pk_rem (by omega) (by decide) (by decide), (show (5 : Int32) = nI 5 from rfl), pk_mul, nI_add]
      rw [e4, if_neg n10, if_neg (nI_pos (by omega)), if_pos (show nI k < 5 from nI_lt (b := 5) hk (by decide)), ei, ej, nI_clamp (by omega), at_i (by omega) (by decide), a7 _ (by omega), o6 i k hi'.1 hi'.2 hk]
      exact ⟨fun _ _ => vp_in_nI (by omega) (by decide), rfl⟩
theorem RX.cost {m sl e T M : Nat} {D RS TP ST : Nat → Nat} {A : Nat → Int32} {C : Nat → aC} (h : RX m sl 0 r q1 B W n K L F H tf gv 0 0 e T M σ τ A D RS TP ST C) : f_X4_cost r σ = f_X9_cost τ ∧ σ.1 r 10 = A 1 ∧ σ.1 r 11 = A 2 ∧ f_X9_cost τ = A 1 * A 8 + A 2 * A 9 := by
  obtain ⟨a1, a2, a3, ⟨o1, o2, o3, o4, -⟩, -, a6, a7, -⟩ := h
  have z : ∀ x : Int32, x + 0 = x := fun x => by simp
  rw [z] at o3 o4
  unfold f_X4_cost f_X9_cost
  rw [a7 1 (by omega), a7 2 (by omega), a7 8 (by omega), a7 9 (by omega), o1, o2, a3 r 4 8 (lk_g (by omega)), a3 r 5 9 (lk_g (by omega)), o3, o4]
  exact ⟨rfl, rfl, rfl, rfl⟩
theorem pr_freel {A : Nat → Int32} (hs : σ.1 r 0 = nI W) (hC : ∀ w, w < 12 → σ.1 (r + 1) w = A (12 + w)) (hM : MRel τ A) (hW : 2 ≤ W ∧ W ≤ 12) (e1 : f_X9_windowsNow τ = nI W) (e2 : p_X9_windowsNow τ) : ∀ (m k : Nat) (v : Int32), k + m = W → ∀ z y, m < z → m < y → q_X4_freeWindows r N z v (nI k) σ ∧ q_X9_freeMany N y v (nI k) τ ∧ l_X4_freeWindows r N z v (nI k) σ = l_X9_freeMany N y v (nI k) τ := by
  intro m
  induction m with
  | zero =>
    intro k v hk z y hz hy
    obtain ⟨z, rfl⟩ : ∃ q, z = q + 1 := ⟨z - 1, by omega⟩
    obtain ⟨y, rfl⟩ : ∃ q, y = q + 1 := ⟨y - 1, by omega⟩
    have c : nI W ≤ nI k := nI_le (by omega) (by omega)
    rw [q_X4_freeWindows, q_X9_freeMany, l_X4_freeWindows, l_X9_freeMany, hs, e1, if_pos c, if_pos c]
    exact ⟨fun q => absurd c q, ⟨e2, fun q => absurd c q⟩, rfl⟩
  | succ m ih =>
    intro k v hk z y hz hy
    obtain ⟨z, rfl⟩ : ∃ q, z = q + 1 := ⟨z - 1, by omega⟩
    obtain ⟨y, rfl⟩ : ∃ q, y = q + 1 := ⟨y - 1, by omega⟩
    have c : ¬ nI W ≤ nI k := nI_ge (by omega) (by omega)
    obtain ⟨f1, f2⟩ := rf_free (w := k) (τ := τ) (by omega)
    rw [q_X4_freeWindows, q_X9_freeMany, l_X4_freeWindows, l_X9_freeMany, hs, e1, if_neg c, if_neg c, at_i (by omega) (by decide), hC k (by omega), f1, hM _ (by omega), nI_1]
    by_cases d : A (12 + k) = -1
    · obtain ⟨i1, i2, i3⟩ := ih (k + 1) (v + 1) (by omega) z y (by omega) (by omega)
      rw [if_pos d, if_pos d, if_neg (by decide)]
      exact ⟨fun _ => ⟨at_p (by decide), fun q => absurd d q, fun _ => i1⟩, ⟨e2, fun _ => ⟨f2, fun q => absurd q (by decide), fun _ => i2⟩⟩, i3⟩
    · obtain ⟨i1, i2, i3⟩ := ih (k + 1) (v + 0) (by omega) z y (by omega) (by omega)
      rw [if_neg d, if_neg d, if_pos rfl]
      exact ⟨fun _ => ⟨at_p (by decide), fun _ => i1, fun q => absurd q d⟩, ⟨e2, fun _ => ⟨f2, fun _ => i2, fun q => absurd rfl q⟩⟩, i3⟩
theorem pr_about (h : Inv U σ τ) (hN : 500 < N) : p_X8_about x1 N σ ∧ p_X9_about x1 N τ ∧ f_X8_about x1 N σ = f_X9_about x1 N τ := by
  obtain ⟨q1, q2, B, W, n, K, L, F, H, tf, gv, p, l, rg, h⟩ := h
  obtain ⟨A, D, RS, TP, ST, C, T, M, E, g1, g2, -, g3, -⟩ := h.get
  have hpr := h.pr
  obtain ⟨-, -, -, a4, a5, a6, ⟨h1, h2, h3, h4, h5, -⟩, -, -, ⟨nt, -, t2, t3, -⟩, -⟩ := h
  have hl := h2
  obtain ⟨k1, k2, k3, k4⟩ := g3.cost
  obtain ⟨b1, b2, b3, b4, -, b6, b7, b8, -, b10, -⟩ := g3
  obtain ⟨e1, e2⟩ := f9_win b6.1 b6.2.1 b6.2.2.1
  have vB : vp_in (τ.1 468 16) 2 := by rw [a4]; exact vp_in_nI b6.1 (by decide)
  have cB : (τ.1 468 16).toNatClampNeg = B := by rw [a4, nI_clamp (by have := b6.1; omega)]
  have em : f_X9_many τ = nI n := by
    unfold f_X9_many
    rw [cB]
    exact b6.2.2.2
  obtain ⟨f1, f2, f3⟩ := pr_freel (r := rg p) (σ := σ) (τ := τ) (N := N) b2.1 (fun w hw => b3 _ _ _ (lk_o hw)) b7 b8.1 e1 e2 W 0 0 (by omega) N N (by have := b8.1; omega) (by have := b8.1; omega)
  have pf : ∀ y, p_X4_fact (rg p) y N σ := fun y => by
    unfold p_X4_fact
    exact fun _ _ _ _ _ _ _ _ _ _ _ => f1
  have pl : (1 : Nat) = 1 := rfl
  refine ⟨?_, ?_, ?_⟩
  · unfold p_X8_about
    rw [g1]
    exact ⟨fun _ => hpr.2.1, fun _ => ⟨fun _ => hpr.2.1, fun _ => ⟨fun _ => hpr.2.1, fun _ => ⟨fun _ => ⟨g2, pf _⟩, fun _ => ⟨fun _ => ⟨g2, pf _⟩, fun _ => ⟨fun _ => ⟨g2, pf _⟩, fun _ => ⟨fun _ => ⟨g2, pf _⟩, fun _ => ⟨fun _ => ⟨g2, pf _⟩, fun _ => ⟨fun _ => ⟨g2, pf _⟩, fun _ => ⟨fun _ => ⟨g2, pf _⟩, fun _ => ⟨fun _ => ⟨g2, pf _⟩, fun _ => ⟨fun _ => ⟨g2, pf _⟩, fun _ => ⟨fun _ => ⟨g2, pf _⟩, fun _ => ⟨fun _ => ⟨g2, pf _⟩, fun _ _ _ _ => ⟨fun _ => hpr.2.1, fun _ => ⟨g2, pf _⟩⟩⟩⟩⟩⟩⟩⟩⟩⟩⟩⟩⟩⟩⟩⟩
  · unfold p_X9_about
    exact ⟨fun _ => e2, fun _ => ⟨fun _ => vB, fun _ => ⟨fun _ => vB, fun _ _ _ _ _ _ _ _ _ _ _ => ⟨fun _ => f2, fun _ _ _ _ _ => vB⟩⟩⟩⟩
  · unfold f_X8_about f_X9_about
    rw [g1, hpr.1]
    by_cases c0 : x1 = 0
    · rw [if_pos c0, if_pos c0, e1]
      exact a5.2.2.1
    rw [if_neg c0, if_neg c0]
    by_cases c1 : x1 = 1
    · rw [if_pos c1, if_pos c1, cB, a5.2.2.2.2.2.2.2.1, a5.2.2.2.2.2.2.2.2.1]
    rw [if_neg c1, if_neg c1]
    by_cases c2 : x1 = 2
    · rw [if_pos c2, if_pos c2, em, a5.2.2.2.2.2.2.2.2.2.1]
    rw [if_neg c2, if_neg c2]
    by_cases c3 : x1 = 3
    · rw [if_pos c3, if_pos c3, c3, b7 0 (by omega)]
      exact b3 _ 9 0 (lk_g (by omega))
    rw [if_neg c3, if_neg c3]
    by_cases c4 : x1 = 4
    · rw [if_pos c4, if_pos c4, c4, b7 1 (by omega)]
      exact k2
    rw [if_neg c4, if_neg c4]
    by_cases c5 : x1 = 5
    · rw [if_pos c5, if_pos c5, c5, b7 2 (by omega)]
      exact k3
    rw [if_neg c5, if_neg c5]
    by_cases c6 : x1 = 6
    · rw [if_pos c6, if_pos c6, c6]
      exact k1
    rw [if_neg c6, if_neg c6]
    by_cases c7 : x1 = 7
    · rw [if_pos c7, if_pos c7, c7, b7 3 (by omega)]
      exact b3 _ 7 3 (lk_g (by omega))
    rw [if_neg c7, if_neg c7]
    by_cases c8 : x1 = 8
    · rw [if_pos c8, if_pos c8, c8, b7 4 (by omega)]
      exact b3 _ 8 4 (lk_g (by omega))
    rw [if_neg c8, if_neg c8]
    by_cases c9 : x1 = 9
    · rw [if_pos c9, if_pos c9, c9, b7 5 (by omega)]
      exact b3 _ 6 5 (lk_g (by omega))
    rw [if_neg c9, if_neg c9]
    by_cases c10 : x1 = 10
    · rw [if_pos c10, if_pos c10, c10, b7 6 (by omega)]
      exact b3 _ 2 6 (lk_g (by omega))
    rw [if_neg c10, if_neg c10]
    by_cases c11 : x1 = 11
    · rw [if_pos c11, if_pos c11, c11, b7 7 (by omega)]
      exact b3 _ 3 7 (lk_g (by omega))
    rw [if_neg c11, if_neg c11]
    by_cases c12 : x1 = 12
    · rw [if_pos c12, if_pos c12, c12, b7 10 (by omega)]
      exact b10
    rw [if_neg c12, if_neg c12]
    by_cases c13 : x1 = 13
    · rw [if_pos c13, if_pos c13, c13]
      exact f3
    rw [if_neg c13, if_neg c13]
    by_cases c14 : x1 = 14
    · rw [if_pos c14, if_pos c14, h2, h4]
    rw [if_neg c14, if_neg c14]
    by_cases c15 : x1 = 15
    · rw [if_pos c15, if_pos c15, h2, h3, h5, pk_sub (by omega)]
    rw [if_neg c15, if_neg c15]
    by_cases c16 : x1 = 16
    · rw [if_pos c16, if_pos c16, t2, t3]
    rw [if_neg c16, if_neg c16]
    by_cases c17 : x1 = 17
    · rw [if_pos c17, if_pos c17, cB, a5.2.2.2.2.2.2.2.2.2.2.2]
    rw [if_neg c17, if_neg c17]
    unfold f_X4_fact
    rw [if_neg c3, if_neg c4, if_neg c5, if_neg c6, if_neg c7, if_neg c8, if_neg c9, if_neg c10, if_neg c11, if_neg c12, if_neg c13]
/-! acts -/
def PR2 (U : Nat) (pc pr : Prop) (a b : Int32 × zS) (σ τ : zS) : Prop := pc ∧ pr ∧ a.1 = b.1 ∧ Inv U a.2 b.2 ∧ zfr 0 468 σ a.2 ∧ zfr 468 501 τ b.2
theorem act_do {p1 : Nat} {rg1 : Nat → Nat} (h : IV q1 q2 B W n K L F H tf gv p l rg U σ τ) (hu : U ≤ U1) (hh : HH q1 B W n K L F H tf gv U p1 p1 rg1 σ1 τ1) (hs1 : zfr 30 357 σ σ1) (ht1 : ∀ q j, ¬ q = 498 → ¬ (q = 468 ∧ (j = 55 ∨ j = 56)) → τ1.1 q j = τ.1 q j) (hr1 : τ1.2 = τ.2) (hs2 : zfr (rg1 p1) (rg1 p1 + 25) σ1 σ2) (ht2 : ∀ q j, ¬ q = 469 → ¬ (492 ≤ q ∧ q ≤ 497) → ¬ (q = 468 ∧ 41 ≤ j ∧ j ≤ 48) → τ2.1 q j = τ1.1 q j) (hr2 : τ2.2 = τ1.2) (hw : RW q1 B W n K L F H tf gv U1 (rg1 p1) σ2 τ2) : Inv U1 σ2 τ2 ∧ zfr 0 468 σ σ2 ∧ zfr 468 501 τ τ2 := by
  have hq := h.pr.2.2
  have hp := hh.1
  obtain ⟨c, c1, c2⟩ := hh.2.2.2.2.2.1 p1 (by omega)
  have h2 := hh.cur hu hs2 (by omega) ht2 hw
  have s12 : zfr 30 357 σ σ2 := hs1.tr (hs2.wk (by omega))
  refine ⟨⟨q1, q2, B, W, n, K, L, F, H, tf, gv, p1, p1, rg1, h.his hu h2 s12 (fun q j z1 z2 z3 z4 => ?_)⟩, s12.wk (by omega), fun q hq1 => ⟨funext fun j => ?_, by rw [hr2, hr1]⟩⟩
  · rw [ht2 q j z1 z3 (by omega), ht1 q j z2 (by omega)]
  · rw [ht2 q j (by omega) (by omega) (by omega), ht1 q j (by omega) (by omega)]
theorem RX.e {sl al e e1 T M : Nat} {D RS TP ST : Nat → Nat} {A : Nat → Int32} {C : Nat → aC} {dT dM : Int32} (h : RX 0 sl al r q1 B W n K L F H tf gv dT dM e T M σ τ A D RS TP ST C) : RX 0 sl al r q1 B W n K L F H tf gv dT dM e1 T M σ τ A D RS TP ST C := by
  obtain ⟨a1, a2, a3, a4, a5, a6, a7, a8, a9, a10, a11, a12, a13, a14, a15, a16, a17, a18, a19, a20⟩ := h
  refine ⟨a1, a2, a3, a4, a5, a6, a7, a8, a9, a10, a11, a12, a13, a14, fun v hv hv1 => ?_, fun v hv hv0 => ?_, a17, a18, a19, a20⟩
  · obtain ⟨z1, z2, z3, z4⟩ := a15 v hv hv1
    refine ⟨z1, z2, z3, ?_⟩
    rcases z4 with y | y
    · exact Or.inl y
    · exact absurd y.1 (by decide)
  · obtain ⟨z1, z2⟩ := a16 v hv hv0
    refine ⟨z1, ?_⟩
    rcases z2 with y | y
    · exact Or.inl y
    · exact absurd y.1 (by decide)
theorem pr_same {pc pr : Prop} {a b : Int32 × zS} (h : Inv U σ τ) (hu : U ≤ U1) (h1 : pc) (h2 : pr) {x y : Int32} (ea : a = (x, σ)) (eb : b = (y, τ)) (hxy : x = y) : PR2 U1 pc pr a b σ τ := by
  rw [ea, eb]
  exact ⟨h1, h2, hxy, h.up hu, zfr.rf, zfr.rf⟩
theorem in500 {x bI : Int32} {b : Nat} (hb : b < 1000) (eb : bI = nI b) : (f_X9_isIn x 1 bI = 0 ∧ (x < 1 ∨ (¬ x < 1 ∧ ¬ x ≤ bI))) ∨ (∃ k, 1 ≤ k ∧ k ≤ b ∧ x = nI k ∧ f_X9_isIn x 1 bI = 1 ∧ ¬ x < 1 ∧ x ≤ bI) := by
  subst eb
  by_cases c : x < 1
  · exact Or.inl ⟨isIn_lo c, Or.inl c⟩
  · by_cases c1 : nI b < x
    · exact Or.inl ⟨isIn_hi c1, Or.inr ⟨c, Int32.not_le.mpr c1⟩⟩
    · obtain ⟨f, f1, f2, f3⟩ := in_lo c c1 (by omega)
      exact Or.inr ⟨f, f1, f2, f3, isIn_in c c1, c, Int32.not_lt.mp c1⟩
theorem pr_run (h : Inv U σ τ) (hN : 200000 < N) (hU : U ≤ 300000) : PR2 (U + 500) (p_X8_run x1 N σ) (p_X9_run x1 N τ) (r_X8_run x1 N σ) (r_X9_run x1 N τ) σ τ := by
  have hI := h
  obtain ⟨q1, q2, B, W, n, K, L, F, H, tf, gv, p, l, rg, h⟩ := h
  obtain ⟨A, D, RS, TP, ST, C, T, M, E, g1, g2, -, g3, -⟩ := h.get
  have hpr := h.pr
  have c7 : σ.1 (rg p) 7 = A 3 := g3.2.2.1 _ 7 3 (lk_g (by omega))
  have m3 : τ.1 469 3 = A 3 := g3.2.2.2.2.2.2.1 3 (by omega)
  have n4 := g3.2.2.2.2.2.2.2.2.2.2.1.2.2.2.1
  rcases in500 (x := x1) (bI := 500) (b := 500) (by decide) rfl with ⟨e, z⟩ | ⟨k, k1, k2, rfl, e, z0, z1⟩
  · have e' : f_X9_isIn x1 1 500 = 0 := e
    refine pr_same hI (by omega) ?_ (fun y => absurd e' y) (x := -1) (y := -1) ?_ ?_ rfl
    · rcases z with z | ⟨z0, z⟩
      · exact fun y => absurd z y
      · exact fun _ y => absurd y z
    · unfold r_X8_run
      rcases z with z | ⟨z0, z⟩
      · rw [if_pos z]
      · rw [if_neg z0, if_neg z]
    · unfold r_X9_run
      rw [e', if_pos rfl]
  · have e' : ¬ f_X9_isIn (nI k) 1 500 = 0 := by rw [show f_X9_isIn (nI k) 1 500 = 1 from e]; decide
    rcases g3.2.2.2.2.2.2.2.2.2.2.2.1 with ⟨t0, -⟩ | ⟨t, ht, t1, -⟩
    · have ca : A 3 = -1 := t0
      refine pr_same hI (by omega) (fun _ _ => ⟨g2, fun y => absurd (by rw [g1, c7]; exact ca) y⟩) (fun _ y => absurd y (by rw [m3, ca]; decide)) (x := 0) (y := 0) ?_ ?_ rfl
      · unfold r_X8_run
        rw [if_neg z0, if_pos z1, g1, c7, if_pos ca]
      · unfold r_X9_run
        rw [if_neg e', m3, ca, if_neg (by decide)]
    · have ca : ¬ A 3 = -1 := by rw [t1]; exact m1_ne (by omega)
      have cb : (0 : Int32) ≤ A 3 := by rw [t1]; exact nI_pos' (by omega)
      obtain ⟨y1, y2, p', rg', y3, y4, y5, y6, y7⟩ := pr_act (N := N) h.2.2.2.2.2.2.1 hN (by have := hpr.2.2; omega)
      obtain ⟨A1, D1, RS1, TP1, ST1, C1, T1, M1, E1, b1, ⟨b2, b2b, b2c, b2d⟩, b3, b4, b5⟩ := y3.2.2.2.2.2.2.2.2.2.1
      have e5 : (r_X1_nextAct N σ).2.2 0 5 - 1 = q1 := by rw [y5.at2 (by omega)]; exact hpr.1
      obtain ⟨x1', x2', x3', i, A2, D2, RS2, TP2, ST2, C2, T2, M2, j1, j2, j3, j4, j5, j6, j7, j8, j9, j10, j11⟩ := pr_play (N := N) (m := 0) (by omega) k k 0 0 T1 M1 _ _ A1 D1 RS1 TP1 ST1 C1 b1 (by omega) (by omega) (by omega) (fun q => absurd q (by decide)) N N (by omega) (by omega)
      have eu : u_X8_run_1 (nI k) N σ = (r_X1_nextAct N σ).2 := rfl
      have ec : r_X8_run (nI k) N σ = l_X4_playOn (rg' p') q1 N N (nI k) (nI 0) (r_X1_nextAct N σ).2 := by
        unfold r_X8_run u_X8_run_2
        rw [if_neg z0, if_pos z1, g1, c7, if_neg ca, eu, e5, y4]
        rfl
      have er : r_X9_run (nI k) N τ = l_X9_goEvents N N (nI k) (nI 0) (s_X9_keepAct N τ) := by
        unfold r_X9_run u_X9_run_2 u_X9_run_1
        rw [if_neg e', m3, if_pos cb]
        rfl
      have w : RW q1 B W n K L F H tf gv (U + 500) (rg' p') (l_X4_playOn (rg' p') q1 N N (nI k) (nI 0) (r_X1_nextAct N σ).2).2 (l_X9_goEvents N N (nI k) (nI 0) (s_X9_keepAct N τ)).2 := by
        obtain ⟨s, s1, s2, s3⟩ := b4
        obtain ⟨a, b, ha, hb, ha1, hb1⟩ := b5
        refine ⟨A2, D2, RS2, TP2, ST2, C2, T2, M2, E1 + i, j2.e, ⟨by omega, by omega, by omega, fun v v1 v2 => (j11 v v1).trans (b2d v v1 v2)⟩, ?_, ⟨s, s1, s2, (j7 5 (by omega) (by omega)).trans s3⟩, a, b, ha, hb, (j7 8 (by omega) (by omega)).trans ha1, (j7 9 (by omega) (by omega)).trans hb1⟩
        rw [j6, b3, nI_add]
      obtain ⟨v1, v2, v3⟩ := act_do h (show U ≤ U + 500 by omega) y3 y5 y6 y7 j9 (fun q j q1 q2 q3 => j10.2 q j (fun z => by unfold sYa at z; omega)) j10.1 w
      unfold PR2
      rw [ec, er]
      refine ⟨?_, ?_, x3', v1, v2, v3⟩
      · unfold p_X8_run
        rw [g1, c7, eu, e5, y4]
        exact fun _ _ => ⟨g2, fun _ => ⟨y1, ⟨by rw [y5.at2 (by omega)]; exact hpr.2.1.1, lay_pr hpr.2.2⟩, x1'⟩⟩
      · exact fun _ _ => ⟨y2, x2'⟩
end IS
