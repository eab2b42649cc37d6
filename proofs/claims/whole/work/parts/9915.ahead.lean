/-! looking ahead -/
section IS
variable {q1 q2 B W n L F U U1 r p l N : Nat} {K : aK} {H tf rg : Nat → Nat} {gv : Nat → Nat → Int32} {σ σ1 σ2 τ τ1 τ2 : zS} {x1 x2 x3 x4 x5 x6 : Int32}
/-- what was found out of each task -/
def AH (n : Nat) (K : aK) (tf : Nat → Nat) (gv : Nat → Nat → Int32) (ST : Nat → Nat) (C : Nat → aC) (σ : zS) : Prop := ∀ v, v < n → (ST v = 0 → CFr σ (444 + 6 * v + 5) 0 K (aBegin K (tf v) (gv v))) ∧ (ST v = 1 → CFr σ (444 + 6 * v + 5) 0 K (C v))
theorem AH.eq {ST : Nat → Nat} {C : Nat → aC} (h : AH n K tf gv ST C σ) (n4 : n ≤ 4) (h1 : ∀ q j, 444 ≤ q → q < 468 → σ1.1 q j = σ.1 q j) : AH n K tf gv ST C σ1 := fun v hv => ⟨fun z k k1 k2 => (h1 _ _ (by omega) (by omega)).trans ((h v hv).1 z k k1 k2), fun z k k1 k2 => (h1 _ _ (by omega) (by omega)).trans ((h v hv).2 z k k1 k2)⟩
theorem ly_way {v : Nat} (hv : v < 4) : zlay (444 + 6 * v) = (7, 5) ∧ zlay (444 + 6 * v + 5) = (20, 3000) := by
  rcases (show v = 0 ∨ v = 1 ∨ v = 2 ∨ v = 3 by omega) with rfl | rfl | rfl | rfl <;> exact ⟨by decide, by decide⟩
theorem cl_look (hN : 200000 < N) {A : Nat → Int32} {D RS TP ST : Nat → Nat} {C : Nat → aC} {T M : Nat} : ∀ (m k : Nat) (σ : zS), k + m = n → IV q1 q2 B W n K L F H tf gv p l rg U σ τ → RX 0 1 0 (rg p) q1 B W n K L F H tf gv 0 0 0 T M σ τ A D RS TP ST C → ∀ z, m < z → q_X8_lookAhead N z (nI k) σ ∧ IV q1 q2 B W n K L F H tf gv p l rg U (l_X8_lookAhead N z (nI k) σ) τ ∧ RX 0 1 0 (rg p) q1 B W n K L F H tf gv 0 0 0 T M (l_X8_lookAhead N z (nI k) σ) τ A D RS TP ST C ∧ zfr (444 + 6 * k) 468 σ (l_X8_lookAhead N z (nI k) σ) ∧ ∀ v, k ≤ v → v < n → (ST v = 0 → CFr (l_X8_lookAhead N z (nI k) σ) (444 + 6 * v + 5) 0 K (aBegin K (tf v) (gv v))) ∧ (ST v = 1 → CFr (l_X8_lookAhead N z (nI k) σ) (444 + 6 * v + 5) 0 K (C v)) := by
  intro m
  induction m with
  | zero =>
    intro k σ hk h g z hz
    obtain ⟨z, rfl⟩ : ∃ q, z = q + 1 := ⟨z - 1, by omega⟩
    have hpr := h.pr
    have e7 : σ.1 q1 7 = nI n := h.2.2.2.2.1.2.2.2.2.2.2.2.2.2.1
    have n4 := g.2.2.2.2.2.2.2.2.2.2.1.2.2.2.1
    have c : nI n ≤ nI k := nI_le (by omega) (by omega)
    rw [q_X8_lookAhead, l_X8_lookAhead, hpr.1, e7, if_pos c]
    exact ⟨⟨by rw [← hpr.1]; exact hpr.2.1, fun y => absurd c y⟩, h, g, zfr.rf, fun v v1 v2 => absurd v1 (by omega)⟩
  | succ m ih =>
    intro k σ hk h g z hz
    obtain ⟨z, rfl⟩ : ∃ q, z = q + 1 := ⟨z - 1, by omega⟩
    have hpr := h.pr
    have hq := hpr.2.2
    have e7 : σ.1 q1 7 = nI n := h.2.2.2.2.1.2.2.2.2.2.2.2.2.2.1
    have hP := g.2.2.2.2.2.2.2.2.2.2.1
    have n4 := hP.2.2.2.1
    have c : ¬ nI n ≤ nI k := nI_ge (by omega) (by omega)
    have c4 : ¬ (4 : Int32) ≤ nI k := nI_ge (b := 4) (by omega) (by decide)
    have k4 : k < 4 := by omega
    obtain ⟨-, -, -, -, -, -, -, -, -, g1, g2, ⟨cc, cc1, cc2⟩, -⟩ := h.get
    have tk := tk_eq g.2.1.2.2 k4
    have pc := tk_p g.1.1 g.2.1.2.2 k4
    have hcl := h.2.2.2.2.2.2.2.2.1
    obtain ⟨l1, l2⟩ := hcl.2.2.2.1 k k4
    obtain ⟨y1, y2⟩ := ly_way k4
    have ck : (nI k).toNatClampNeg = k := nI_clamp (by omega)
    have vk : vp_in (nI k) 4 := vp_in_nI k4 (by decide)
    have s1 : σ.1 (rg p + 5 + 5 * k) 1 = nI (ST k) := by
      rcases g.2.2.2.2.2.2.2.2.2.2.2.2.2.1 k k4 with y | y
      · exact y
      · exact absurd y.1 (by decide)
    obtain ⟨w1, w2, w3, w4, w5, w6, w7, w8, -⟩ := g.2.2.2.2.2.2.2.1.2.1 k k4
    have pl : (σ.2 0 5 ≠ 0 ∧ zlay q1 = (2, 16)) := by rw [← hpr.1]; exact hpr.2.1
    have o1 : σ.2 390 k - 1 = 444 + 6 * k := by rw [l1]; omega
    have pw : (σ.2 390 k ≠ 0 ∧ zlay (σ.2 390 k - 1) = (7, 5)) := ⟨by rw [l1]; omega, by rw [o1]; exact y1⟩
    have fin : ∀ σ1, zfr (444 + 6 * k) (444 + 6 * k + 6) σ σ1 → (∀ q j, ¬ (q = 444 + 6 * k + 1 ∧ j = 4) → σ1.2 q j = σ.2 q j) → σ1.2 (444 + 6 * k + 1) 4 = 1000001 → IV q1 q2 B W n K L F H tf gv p l rg U σ1 τ ∧ RX 0 1 0 (rg p) q1 B W n K L F H tf gv 0 0 0 T M σ1 τ A D RS TP ST C := fun σ1 f1 f2 f3 => by
      refine ⟨h.scr (fun q hq1 => f1 q (by have : ¬ ((359 ≤ q ∧ q < 394) ∨ (444 ≤ q ∧ q < 468)) := hq1; omega)) ⟨fun b hb => (f2 _ _ (by omega)).trans (hcl.1 b hb), fun v hv => (f2 _ _ (by omega)).trans (hcl.2.1 v hv), fun b hb v hv => (f2 _ _ (by omega)).trans (hcl.2.2.1 b hb v hv), fun i hi => ⟨(f2 _ _ (by omega)).trans (hcl.2.2.2.1 i hi).1, ?_⟩, (f2 _ _ (by omega)).trans hcl.2.2.2.2⟩ (fun _ _ _ => rfl), g.sig (fun q j z => f1.at (by omega)) (fun q j z1 z2 => f1.at2 (by omega))⟩
      by_cases e : i = k
      · rw [e]; exact f3
      · exact (f2 _ _ (by omega)).trans (hcl.2.2.2.1 i hi).2
    rw [q_X8_lookAhead, l_X8_lookAhead, hpr.1, e7, if_neg c, if_neg c4, g1, tk, s1, ck, nI_1]
    by_cases c0 : nI (ST k) = 0
    · have S0 : ST k = 0 := (nI_eq (b := 0) (by omega) (by decide)).mp c0
      obtain ⟨hf, h3, -, hg⟩ := hP.2.2.2.2 k (by omega)
      obtain ⟨a1, a2, a3, a4⟩ := cl_ftask (o := 444 + 6 * k) (N := N) (v := k) (g := gv k) hP.1 (by omega) (by omega) hP.2.1 l2 k4 hf h3 (fun i hi => (hg i hi).1)
      have eu : u_X8_lookAhead_h0_2 N (nI k) σ = s_X7_followTask (444 + 6 * k) q1 (nI k) N σ := by
        unfold u_X8_lookAhead_h0_2
        rw [ck, o1, hpr.1]
      obtain ⟨v1, v2⟩ := fin _ a2 (fun q j z => by rw [a3]) (by rw [a3]; exact l2)
      obtain ⟨i1, i2, i3, i4, i5⟩ := ih (k + 1) _ (by omega) v1 v2 z (by omega)
      rw [if_pos c0, eu, o1]
      refine ⟨⟨pl, fun _ _ => ⟨g2, pc, fun y => absurd c0 y, fun _ => ⟨vk, by rw [← o1]; exact pw, a1, i1⟩⟩⟩, i2, i3, (a2.wk (by omega)).tr (i4.wk (by omega)), fun v v1 v2 => ?_⟩
      by_cases e : v = k
      · subst e
        exact ⟨fun _ j j1 j2 => (i4.at (by omega)).trans (a4 j j1 j2), fun y => absurd y (by omega)⟩
      · exact i5 v (by omega) v2
    · have S0 : ¬ ST k = 0 := fun y => c0 (by rw [y]; rfl)
      have hd : σ.1 (rg p + 6 + 5 * k) 0 = nI (D k) := (g.2.2.1 _ 0 _ (lk_d k4)).trans w3
      obtain ⟨hh, hh1, hh2⟩ := g.2.2.2.2.2.2.2.2.2.2.2.2.2.2.2.2.2.2.2 rfl k k4
      have key : ∃ c0 : aC, c0.1 = D k ∧ (1 ≤ c0.1 → tyC L H c0 ∧ CC σ (rg p + 6 + 5 * k) c0) ∧ (ST k = 1 → c0 = C k) := by
        by_cases S1 : ST k = 1
        · obtain ⟨z1, z2, z3, z4⟩ := g.2.2.2.2.2.2.2.2.2.2.2.2.2.2.1 k k4 S1
          refine ⟨C k, z1, fun _ => ⟨z2, ?_⟩, fun _ => rfl⟩
          rcases z4 with ⟨-, y, -⟩ | ⟨y, -⟩
          · exact y
          · exact absurd y (by decide)
        · refine ⟨(D k, (C k).2), rfl, fun y => ?_, fun y => absurd y S1⟩
          exact absurd (w8.mpr y) S1
      obtain ⟨c0', z1, z2, z3⟩ := key
      obtain ⟨a1, a2, a3, a4, a5⟩ := cl_fon (o := 444 + 6 * k) (s := rg p + 6 + 5 * k) (N := N) (c0 := c0') hP.1 (by omega) (by omega) (by omega) hP.2.1 (by rw [z1]; exact hd) (by omega) hh1 hh2 z2
      have eu : u_X8_lookAhead_h0_1 N (nI k) σ = s_X7_followOn (444 + 6 * k) q1 (rg p + 6 + 5 * k) N σ := by
        unfold u_X8_lookAhead_h0_1
        rw [ck, o1, hpr.1, g1, tk, show rg p + 5 + 5 * k + 1 = rg p + 6 + 5 * k by omega]
      obtain ⟨v1, v2⟩ := fin _ a2 a3 a4
      obtain ⟨i1, i2, i3, i4, i5⟩ := ih (k + 1) _ (by omega) v1 v2 z (by omega)
      rw [if_neg c0, eu, o1, show rg p + 5 + 5 * k + 1 = rg p + 6 + 5 * k by omega]
      refine ⟨⟨pl, fun _ _ => ⟨g2, pc, fun _ => ⟨vk, by rw [← o1]; exact pw, a1, i1⟩, fun y => absurd y c0⟩⟩, i2, i3, (a2.wk (by omega)).tr (i4.wk (by omega)), fun v v1 v2 => ?_⟩
      by_cases e : v = k
      · subst e
        refine ⟨fun y => absurd y S0, fun y j j1 j2 => ?_⟩
        rw [z3 y] at a5
        exact (i4.at (by omega)).trans (a5 j j1 j2)
      · exact i5 v (by omega) v2
/-- the trial's courses are told to be played by what was found out -/
theorem cl_fore (hN : 200000 < N) : ∀ (m k : Nat) (σ : zS), k + m = 4 → CL σ → ∀ z, m < z → q_X4_foresee 359 390 N z (nI k) σ ∧ (∀ q j, ¬ (j = 5 ∧ (q = 365 ∨ q = 370 ∨ q = 375 ∨ q = 380)) → (l_X4_foresee 359 390 N z (nI k) σ).1 q j = σ.1 q j) ∧ (∀ q j, ¬ (j = 4 ∧ (q = 365 ∨ q = 370 ∨ q = 375 ∨ q = 380)) → (l_X4_foresee 359 390 N z (nI k) σ).2 q j = σ.2 q j) ∧ (∀ v, v < k → (l_X4_foresee 359 390 N z (nI k) σ).1 (365 + 5 * v) 5 = σ.1 (365 + 5 * v) 5 ∧ (l_X4_foresee 359 390 N z (nI k) σ).2 (365 + 5 * v) 4 = σ.2 (365 + 5 * v) 4) ∧ ∀ v, k ≤ v → v < 4 → (l_X4_foresee 359 390 N z (nI k) σ).1 (365 + 5 * v) 5 = 0 ∧ (l_X4_foresee 359 390 N z (nI k) σ).2 (365 + 5 * v) 4 = 444 + 6 * v + 5 + 1 := by
  intro m
  induction m with
  | zero =>
    intro k σ hk hc z hz
    obtain ⟨z, rfl⟩ : ∃ q, z = q + 1 := ⟨z - 1, by omega⟩
    have c : (4 : Int32) ≤ nI k := nI_le (a := 4) (by omega) (by omega)
    rw [q_X4_foresee, l_X4_foresee, if_pos c]
    exact ⟨fun y => absurd c y, fun _ _ _ => rfl, fun _ _ _ => rfl, fun _ _ => ⟨rfl, rfl⟩, fun v v1 v2 => absurd v1 (by omega)⟩
  | succ m ih =>
    intro k σ hk hc z hz
    obtain ⟨z, rfl⟩ : ∃ q, z = q + 1 := ⟨z - 1, by omega⟩
    have c : ¬ (4 : Int32) ≤ nI k := nI_ge (b := 4) (by omega) (by decide)
    have k4 : k < 4 := by omega
    have ck : (nI k).toNatClampNeg = k := nI_clamp (by omega)
    have hl := Rly.trial
    obtain ⟨l1, l2⟩ := hc.2.2.2.1 k k4
    have e1 : σ.2 (359 + 4) k - 1 = 359 + 5 + 5 * k := by rw [hc.2.1 k k4]; omega
    have e2 : σ.2 390 k - 1 = 444 + 6 * k := by rw [l1]; omega
    have pt := tk_p (t := k) hl hc.2.1 k4
    have pt' : (σ.2 (359 + 4) k ≠ 0 ∧ zlay (σ.2 (359 + 4) k - 1) = (5, 12)) := by
      have := (pt.2 (nI_pos (by omega))).2 c
      rw [ck] at this
      exact this.2
    have eu : u_X4_foresee_h0_1 359 390 N (nI k) σ = zuI (zuR σ (365 + 5 * k) 4 (444 + 6 * k + 5 + 1)) (365 + 5 * k) 5 0 := by
      unfold u_X4_foresee_h0_1 s_X0_foresee u_X0_foresee_2 u_X0_foresee_1
      rw [ck, e1, e2, show 359 + 5 + 5 * k + 1 = 365 + 5 * k by omega]
    have hc1 : CL (zuI (zuR σ (365 + 5 * k) 4 (444 + 6 * k + 5 + 1)) (365 + 5 * k) 5 0) := by
      have f : ∀ q j, ¬ (q = 365 + 5 * k ∧ j = 4) → (zuI (zuR σ (365 + 5 * k) 4 (444 + 6 * k + 5 + 1)) (365 + 5 * k) 5 0).2 q j = σ.2 q j := fun q j y => if_neg y
      exact ⟨fun b hb => (f _ _ (by omega)).trans (hc.1 b hb), fun v hv => (f _ _ (by omega)).trans (hc.2.1 v hv), fun b hb v hv => (f _ _ (by omega)).trans (hc.2.2.1 b hb v hv), fun i hi => ⟨(f _ _ (by omega)).trans (hc.2.2.2.1 i hi).1, (f _ _ (by omega)).trans (hc.2.2.2.1 i hi).2⟩, (f _ _ (by omega)).trans hc.2.2.2.2⟩
    obtain ⟨i1, i2, i3, i4, i5⟩ := ih (k + 1) _ (by omega) hc1 z (by omega)
    rw [q_X4_foresee, l_X4_foresee, if_neg c, if_neg c, ck, eu, nI_1, e2]
    refine ⟨fun _ _ => ⟨vp_in_nI k4 (by decide), pt', ⟨by rw [l1]; omega, (ly_way k4).1⟩, ?_, i1⟩, fun q j y => ?_, fun q j y => ?_, fun v hv => ?_, fun v v1 v2 => ?_⟩
    · show 444 + 6 * k + 5 < 1000003
      omega
    · rw [i2 q j y]
      exact gI_n (by omega)
    · rw [i3 q j y]
      exact (if_neg (by omega))
    · rw [(i4 v (by omega)).1, (i4 v (by omega)).2]
      exact ⟨gI_n (by omega), (if_neg (by omega))⟩
    · by_cases e : v = k
      · subst e
        rw [(i4 v (by omega)).1, (i4 v (by omega)).2]
        exact ⟨gI_h rfl rfl, gR_hit⟩
      · exact i5 v (by omega) v2
theorem RX.fore {sl T M : Nat} {A : Nat → Int32} {D RS TP ST : Nat → Nat} {C : Nat → aC} (h : RX 0 sl 0 359 q1 B W n K L F H tf gv 0 0 0 T M σ τ A D RS TP ST C) (hq : q1 + 7 ≤ 359) (hn : ∀ v, v < 4 → ST v = 1 → v < n) (ha : AH n K tf gv ST C σ) (h1 : ∀ q j, ¬ (j = 5 ∧ (q = 365 ∨ q = 370 ∨ q = 375 ∨ q = 380)) → σ1.1 q j = σ.1 q j) (h2 : ∀ q j, ¬ (j = 4 ∧ (q = 365 ∨ q = 370 ∨ q = 375 ∨ q = 380)) → σ1.2 q j = σ.2 q j) (h3 : ∀ v, v < 4 → σ1.1 (365 + 5 * v) 5 = 0 ∧ σ1.2 (365 + 5 * v) 4 = 444 + 6 * v + 5 + 1) : RX 1 sl 0 359 q1 B W n K L F H tf gv 0 0 0 T M σ1 τ A D RS TP ST C := by
  obtain ⟨a1, a2, a3, a4, a5, a6, a7, a8, a9, a10, a11, a12, a13, a14, a15, a16, a17, a18, a19, a20⟩ := h
  have n4 := a11.2.2.2.1
  have cf : ∀ v c, v < 4 → CFr σ (444 + 6 * v + 5) 0 K c → CF σ1 359 (359 + 6 + 5 * v) K c 0 := fun v c hv y => by
    obtain ⟨y1, y2⟩ := h3 v hv
    exact ⟨444 + 6 * v + 5, 0, y2, (ly_way hv).2, Or.inr (by omega), y1, Nat.le_refl _, fun k k1 k2 => (h1 _ _ (by omega)).trans (y k k1 k2)⟩
  refine ⟨a1, ⟨(h1 _ _ (by omega)).trans a2.1, (h1 _ _ (by omega)).trans a2.2.1, fun v hv => (h2 _ _ (by omega)).trans (a2.2.2 v hv)⟩, fun a k i hk => ?_, a4.eq (h1 _ _ (by omega)) (h1 _ _ (by omega)) (fun j => h1 _ _ (by omega)) (fun _ _ => rfl), fun v hv hv1 => (h1 _ _ (by omega)).trans (a5 v hv hv1), a6, a7, a8, a9, (h1 _ _ (by omega)).trans a10, a11.eq (fun q j m1 m2 => h1 q j (by omega)), a12, a13, fun v hv => ?_, fun v hv hv1 => ?_, fun v hv hv0 => ?_, fun hm => absurd hm (by decide), fun hm => absurd hm (by decide), a19, fun hm => absurd hm (by decide)⟩
  · refine (h1 _ _ ?_).trans (a3 a k i hk)
    unfold Lk at hk
    rcases hk with hk | hk | hk | ⟨t, hk⟩ | ⟨t, hk⟩ <;> omega
  · have := a14 v hv
    unfold Sx at this ⊢
    rw [h1 _ _ (by omega)]
    exact this
  · obtain ⟨z1, z2, z3, z4⟩ := a15 v hv hv1
    refine ⟨z1, z2, z3, Or.inr ⟨rfl, ?_, cf v _ hv ((ha v (hn v hv hv1)).2 hv1)⟩⟩
    rw [h1 _ _ (by omega)]
    rcases z4 with ⟨-, ⟨y0, -⟩, -⟩ | ⟨y, -⟩
    · exact y0
    · exact absurd y (by decide)
  · obtain ⟨z1, -⟩ := a16 v hv hv0
    exact ⟨z1, Or.inr ⟨rfl, cf v _ (by omega) ((ha v hv).1 hv0)⟩⟩
end IS
