/-! one ring beside one row; the rings of the history beside the rows kept -/
theorem RX.cop {sl al r s q1 B W n N L F e T M : Nat} {K : aK} {H tf D RS TP ST : Nat → Nat} {gv : Nat → Nat → Int32} {dT dM : Int32} {σ τ : zS} {A : Nat → Int32} {C : Nat → aC} (h : RX 0 sl al s q1 B W n K L F H tf gv dT dM e T M σ τ A D RS TP ST C) (hN : 500 < N) (hl : Rly r) (hq : q1 + 7 ≤ r ∨ r + 25 ≤ q1) (hrs : r + 25 ≤ s ∨ s + 25 ≤ r) (hpr : ∀ v, v < 4 → σ.2 (r + 4) v = r + 5 + 5 * v + 1) : p_X4_copyFrom r s N σ ∧ RX 0 sl al r q1 B W n K L F H tf gv dT dM e T M (s_X4_copyFrom r s N σ) τ A D RS TP ST C ∧ zfr r (r + 25) σ (s_X4_copyFrom r s N σ) ∧ (∀ q j, ¬ (j = 4 ∧ r + 5 ≤ q ∧ q < r + 25) → (s_X4_copyFrom r s N σ).2 q j = σ.2 q j) := by
  have hx := h
  obtain ⟨a1, a2, a3, a4, a5, a6, a7, a8, a9, a10, a11, a12, a13, a14, a15, a16, a17, a18, a19, a20⟩ := h
  have hd : ∀ v, ∃ d hh : Nat, v < 4 → d ≤ 60 ∧ hh ≤ 1680 ∧ σ.1 (s + 6 + 5 * v) 0 = nI d ∧ σ.1 (s + 6 + 5 * v) 2 = nI hh := fun v => by
    by_cases hv : v < 4
    · obtain ⟨hh, h1, h2⟩ := a20 rfl v hv
      obtain ⟨-, -, g3, g4, -⟩ := a8.2.1 v hv
      exact ⟨D v, hh, fun _ => ⟨g4, h1, (a3 _ _ _ (lk_d hv)).trans g3, h2⟩⟩
    · exact ⟨0, 0, fun z => absurd z hv⟩
  obtain ⟨dd, hd⟩ := Classical.axiomOfChoice hd
  obtain ⟨hh, hd⟩ := Classical.axiomOfChoice hd
  obtain ⟨c1, c2, c3, c4⟩ := cl_copy (dd := dd) (hh := hh) hN hl a1.1 hrs hpr a2.2.2 (fun v hv => hd v hv)
  exact ⟨c1, hx.cpy hl hq c2 (fun q j m1 m2 => c3.at (by omega)), c3, c4⟩
/-- only the ring's own cells and the store's matter -/
theorem RX.sig {sl al r q1 B W n L F e T M : Nat} {K : aK} {H tf D RS TP ST : Nat → Nat} {gv : Nat → Nat → Int32} {dT dM : Int32} {σ σ1 τ : zS} {A : Nat → Int32} {C : Nat → aC} (h : RX 0 sl al r q1 B W n K L F H tf gv dT dM e T M σ τ A D RS TP ST C) (h1 : ∀ q j, ((r ≤ q ∧ q < r + 25) ∨ (q1 ≤ q ∧ q < q1 + 7)) → σ1.1 q j = σ.1 q j) (h2 : ∀ q j, r ≤ q → q < r + 25 → σ1.2 q j = σ.2 q j) : RX 0 sl al r q1 B W n K L F H tf gv dT dM e T M σ1 τ A D RS TP ST C := by
  obtain ⟨a1, a2, a3, a4, a5, a6, a7, a8, a9, a10, a11, a12, a13, a14, a15, a16, a17, a18, a19, a20⟩ := h
  have n4 := a11.2.2.2.1
  refine ⟨a1, ⟨(h1 _ _ (by omega)).trans a2.1, (h1 _ _ (by omega)).trans a2.2.1, fun v hv => (h2 _ _ (by omega) (by omega)).trans (a2.2.2 v hv)⟩, fun a k i hk => ?_, a4.eq (h1 _ _ (by omega)) (h1 _ _ (by omega)) (fun j => h1 _ _ (by omega)) (fun _ _ => rfl), fun v hv hv1 => (h1 _ _ (by omega)).trans (a5 v hv hv1), a6, a7, a8, a9, (h1 _ _ (by omega)).trans a10, a11.eq (fun q j m1 m2 => h1 q j (by omega)), a12, a13, fun v hv => ?_, fun v hv hv1 => ?_, fun v hv hv0 => ?_, fun hm v hv => (h2 _ _ (by omega) (by omega)).trans (a17 hm v hv), fun hm hal v hv hv2 => (h1 _ _ (by omega)).trans (a18 hm hal v hv hv2), a19, fun hm v hv => ?_⟩
  · refine (h1 _ _ ?_).trans (a3 a k i hk)
    unfold Lk at hk
    rcases hk with hk | hk | hk | ⟨t, hk⟩ | ⟨t, hk⟩ <;> omega
  · have := a14 v hv
    unfold Sx at this ⊢
    rw [h1 _ _ (by omega)]
    exact this
  · obtain ⟨z1, z2, z3, z4⟩ := a15 v hv hv1
    refine ⟨z1, z2, z3, ?_⟩
    rcases z4 with ⟨-, ⟨y0, y1, y2, y3, y4, y5⟩, y6⟩ | z4
    · exact Or.inl ⟨rfl, ⟨(h1 _ _ (by omega)).trans y0, fun w => (h1 _ _ (by omega)).trans (y1 w), (h1 _ _ (by omega)).trans y2, fun j hj => (h1 _ _ (by omega)).trans (y3 j hj), fun k i j1 j2 hi => (h1 _ _ (by omega)).trans (y4 k i j1 j2 hi), fun k j1 j2 => (h1 _ _ (by omega)).trans (y5 k j1 j2)⟩, (h2 _ _ (by omega) (by omega)).trans y6⟩
    · exact absurd z4.1 (by decide)
  · obtain ⟨z1, z2⟩ := a16 v hv hv0
    refine ⟨z1, ?_⟩
    rcases z2 with ⟨-, z2⟩ | z2
    · exact Or.inl ⟨rfl, (h2 _ _ (by omega) (by omega)).trans z2⟩
    · exact absurd z2.1 (by decide)
  · obtain ⟨hh, g1, g2⟩ := a20 hm v hv
    exact ⟨hh, g1, (h1 _ _ (by omega)).trans g2⟩
def RW (q1 B W n : Nat) (K : aK) (L F : Nat) (H tf : Nat → Nat) (gv : Nat → Nat → Int32) (U r : Nat) (σ τ : zS) : Prop := ∃ (A : Nat → Int32) (D RS TP ST : Nat → Nat) (C : Nat → aC) (T M E : Nat), RX 0 1 0 r q1 B W n K L F H tf gv 0 0 0 T M σ τ A D RS TP ST C ∧ (T ≤ 4 * E ∧ M ≤ 37 * E ∧ E ≤ U ∧ ∀ v, n ≤ v → v < 4 → ST v = 0) ∧ A 0 = nI E ∧ (∃ s, 1 ≤ s ∧ s ≤ 50 ∧ A 5 = nI s) ∧ ∃ a b, a ≤ 99 ∧ b ≤ 99 ∧ A 8 = nI a ∧ A 9 = nI b
def tw (τ : zS) (q o : Nat) : zS := (fun a j => if a = 469 then τ.1 q (o + j) else τ.1 a j, τ.2)
theorem tw_h {τ : zS} {q o j : Nat} : (tw τ q o).1 469 j = τ.1 q (o + j) := by
  show (if 469 = 469 then τ.1 q (o + j) else τ.1 469 j) = _
  rw [if_pos rfl]
theorem tw_o {τ : zS} {q o a j : Nat} (h : ¬ a = 469) : (tw τ q o).1 a j = τ.1 a j := if_neg h
section HS
variable {q1 B W n L F U U1 r p l N : Nat} {K : aK} {H tf rg : Nat → Nat} {gv : Nat → Nat → Int32} {σ σ1 τ τ1 : zS}
theorem RW.tau (h : RW q1 B W n K L F H tf gv U r σ τ) (h1 : τ1.1 468 16 = τ.1 468 16) (h2 : ∀ q j, (q = 470 ∨ q = 477 ∨ (480 ≤ q ∧ q ≤ 484)) → τ1.1 q j = τ.1 q j) (h3 : ∀ j, j < 11440 → τ1.1 469 j = τ.1 469 j) : RW q1 B W n K L F H tf gv U r σ τ1 := by
  obtain ⟨A, D, RS, TP, ST, C, T, M, E, g1, g2⟩ := h
  exact ⟨A, D, RS, TP, ST, C, T, M, E, g1.tau h1 h2 h3, g2⟩
theorem RW.sig (h : RW q1 B W n K L F H tf gv U r σ τ) (h1 : ∀ q j, ((r ≤ q ∧ q < r + 25) ∨ (q1 ≤ q ∧ q < q1 + 7)) → σ1.1 q j = σ.1 q j) (h2 : ∀ q j, r ≤ q → q < r + 25 → σ1.2 q j = σ.2 q j) : RW q1 B W n K L F H tf gv U r σ1 τ := by
  obtain ⟨A, D, RS, TP, ST, C, T, M, E, g1, g2⟩ := h
  exact ⟨A, D, RS, TP, ST, C, T, M, E, g1.sig h1 h2, g2⟩
theorem RW.up (h : RW q1 B W n K L F H tf gv U r σ τ) (hu : U ≤ U1) : RW q1 B W n K L F H tf gv U1 r σ τ := by
  obtain ⟨A, D, RS, TP, ST, C, T, M, E, g1, ⟨g2, g3, g4, g4b⟩, g5⟩ := h
  exact ⟨A, D, RS, TP, ST, C, T, M, E, g1, ⟨g2, g3, by omega, g4b⟩, g5⟩
theorem RW.cop {s : Nat} (h : RW q1 B W n K L F H tf gv U s σ τ) (hN : 500 < N) (hl : Rly r) (hq : q1 + 7 ≤ r ∨ r + 25 ≤ q1) (hrs : r + 25 ≤ s ∨ s + 25 ≤ r) (hpr : ∀ v, v < 4 → σ.2 (r + 4) v = r + 5 + 5 * v + 1) : p_X4_copyFrom r s N σ ∧ RW q1 B W n K L F H tf gv U r (s_X4_copyFrom r s N σ) τ ∧ zfr r (r + 25) σ (s_X4_copyFrom r s N σ) ∧ (∀ q j, ¬ (j = 4 ∧ r + 5 ≤ q ∧ q < r + 25) → (s_X4_copyFrom r s N σ).2 q j = σ.2 q j) := by
  obtain ⟨A, D, RS, TP, ST, C, T, M, E, g1, g2⟩ := h
  obtain ⟨c1, c2, c3, c4⟩ := g1.cop (N := N) hN hl hq hrs hpr
  exact ⟨c1, ⟨A, D, RS, TP, ST, C, T, M, E, c2, g2⟩, c3, c4⟩
theorem RW.ptr (h : RW q1 B W n K L F H tf gv U r σ τ) : ∀ v, v < 4 → σ.2 (r + 4) v = r + 5 + 5 * v + 1 := by
  obtain ⟨A, D, RS, TP, ST, C, T, M, E, g1, g2⟩ := h
  exact g1.2.1.2.2
/-! the history -/
def HH (q1 B W n : Nat) (K : aK) (L F : Nat) (H tf : Nat → Nat) (gv : Nat → Nat → Int32) (U p l : Nat) (rg : Nat → Nat) (σ τ : zS) : Prop := (p ≤ l ∧ l ≤ 12) ∧ σ.1 30 1 = nI p ∧ σ.1 30 2 = nI l ∧ τ.1 468 55 = nI p ∧ τ.1 468 56 = nI (l - p) ∧ (∀ i, i < 13 → ∃ c, c < 13 ∧ rg i = 32 + 25 * c) ∧ (∀ i j, i < 13 → j < 13 → rg i = rg j → i = j) ∧ (∀ i, i < 13 → σ.2 31 i = rg i + 1) ∧ (∀ i, i < 13 → ∀ v, v < 4 → σ.2 (rg i + 4) v = rg i + 5 + 5 * v + 1) ∧ RW q1 B W n K L F H tf gv U (rg p) σ τ ∧ (∀ k, k < p → RW q1 B W n K L F H tf gv U (rg k) σ (tw τ 498 (11440 * k))) ∧ ∀ k, p < k → k ≤ l → RW q1 B W n K L F H tf gv U (rg k) σ (tw τ 498 (11440 * (k - 1)))
theorem rly_h : ∀ c, c < 13 → ∀ d, d < 25 → zlay (32 + 25 * c + d) = ly_4 d := by decide +kernel
theorem rly_o : ∀ d, d < 25 → zlay (359 + d) = ly_4 d ∧ zlay (394 + d) = ly_4 d ∧ zlay (419 + d) = ly_4 d := by decide +kernel
theorem Rly.hist {r : Nat} (h : ∃ c, c < 13 ∧ r = 32 + 25 * c) : Rly r := by
  obtain ⟨c, hc, rfl⟩ := h
  exact ⟨by omega, fun d hd => rly_h c hc d hd⟩
theorem Rly.trial : Rly 359 := ⟨by omega, fun d hd => (rly_o d hd).1⟩
theorem Rly.box {b : Nat} (hb : b < 2) : Rly (394 + 25 * b) := by
  rcases (show b = 0 ∨ b = 1 by omega) with rfl | rfl
  · exact ⟨by omega, fun d hd => (rly_o d hd).2.1⟩
  · exact ⟨by omega, fun d hd => (rly_o d hd).2.2⟩
theorem Rly.self {r : Nat} (h : Rly r) : zlay r = (4, 17) := (h.2 0 (by decide)).trans rfl
theorem now_ok {σ : zS} {p r : Nat} (hp : p < 13) (h1 : σ.1 30 1 = nI p) (h2 : σ.2 31 p = r + 1) (hl : zlay r = (4, 17)) : f_X1_now σ = r ∧ p_X1_now σ := by
  have c1 : ¬ nI p < 0 := nI_pos (by omega)
  have c2 : ¬ (13 : Int32) ≤ nI p := nI_ge (b := 13) hp (by decide)
  unfold f_X1_now p_X1_now
  rw [h1, if_neg c1, if_neg c2, nI_clamp (by omega), h2]
  exact ⟨rfl, fun z => absurd z c1, fun _ => ⟨fun z => absurd z c2, fun _ => ⟨vp_in_nI hp (by decide), by omega, hl⟩⟩⟩
theorem HH.now (h : HH q1 B W n K L F H tf gv U p l rg σ τ) : f_X1_now σ = rg p ∧ p_X1_now σ := now_ok (by have := h.1; omega) h.2.1 (h.2.2.2.2.2.2.2.1 p (by have := h.1; omega)) (Rly.self (Rly.hist (h.2.2.2.2.2.1 p (by have := h.1; omega))))
/-- rings lie apart -/
theorem rg_apart (h6 : ∀ i, i < 13 → ∃ c, c < 13 ∧ rg i = 32 + 25 * c) (h7 : ∀ i j, i < 13 → j < 13 → rg i = rg j → i = j) {i j : Nat} (hi : i < 13) (hj : j < 13) (hij : ¬ i = j) : rg i + 25 ≤ rg j ∨ rg j + 25 ≤ rg i := by
  obtain ⟨c, c1, c2⟩ := h6 i hi
  obtain ⟨d, d1, d2⟩ := h6 j hj
  have : ¬ rg i = rg j := fun z => hij (h7 i j hi hj z)
  omega
/-- the ring at hand alone has changed, and the row -/
theorem HH.cur (h : HH q1 B W n K L F H tf gv U p l rg σ τ) (hu : U ≤ U1) (hs : zfr (rg p) (rg p + 25) σ σ1) (hq : q1 + 7 ≤ 32) (ht : ∀ q j, ¬ q = 469 → ¬ (492 ≤ q ∧ q ≤ 497) → ¬ (q = 468 ∧ 41 ≤ j ∧ j ≤ 48) → τ1.1 q j = τ.1 q j) (hr : RW q1 B W n K L F H tf gv U1 (rg p) σ1 τ1) : HH q1 B W n K L F H tf gv U1 p l rg σ1 τ1 := by
  obtain ⟨h1, h2, h3, h4, h5, h6, h7, h8, h9, h10, h11, h12⟩ := h
  obtain ⟨cp, cp1, cp2⟩ := h6 p (by omega)
  have mv : ∀ k o, k < 13 → ¬ k = p → RW q1 B W n K L F H tf gv U (rg k) σ (tw τ 498 o) → RW q1 B W n K L F H tf gv U1 (rg k) σ1 (tw τ1 498 o) := fun k o hk hkp g => by
    have ap := rg_apart h6 h7 hk (show p < 13 by omega) hkp
    obtain ⟨ck, ck1, ck2⟩ := h6 k hk
    refine ((g.up hu).sig (fun q j hq1 => hs.at (by omega)) (fun q j m1 m2 => hs.at2 (by omega))).tau ?_ ?_ ?_
    · rw [tw_o (by decide), tw_o (by decide)]
      exact ht _ _ (by omega) (by omega) (by omega)
    · intro q j hq1
      rw [tw_o (by omega), tw_o (by omega)]
      exact ht _ _ (by omega) (by omega) (by omega)
    · intro j hj
      rw [tw_h, tw_h]
      exact ht _ _ (by omega) (by omega) (by omega)
  refine ⟨h1, (hs.at (by omega)).trans h2, (hs.at (by omega)).trans h3, (ht _ _ (by omega) (by omega) (by omega)).trans h4, (ht _ _ (by omega) (by omega) (by omega)).trans h5, h6, h7, fun i hi => (hs.at2 (by omega)).trans (h8 i hi), fun i hi v hv => ?_, hr, fun k hk => mv k _ (by omega) (by omega) (h11 k hk), fun k k1 k2 => mv k _ (by omega) (by omega) (h12 k k1 k2)⟩
  by_cases e : i = p
  · rw [e]
    exact hr.ptr v hv
  · have ap := rg_apart h6 h7 hi (show p < 13 by omega) e
    rw [hs.at2 (by omega)]
    exact h9 i hi v hv
/-! the oldest ring goes -/
theorem cl_drop {a : Nat} (h6 : ∀ i, i < 13 → ∃ c, c < 13 ∧ rg i = 32 + 25 * c) : ∀ (m k : Nat) (σ : zS), k + m = 12 → (∀ i, k ≤ i → i < 13 → σ.2 31 i = rg i + 1) → ∀ z, m < z → q_X1_dropOldest N z a (nI k) σ ∧ (l_X1_dropOldest N z a (nI k) σ).1 = σ.1 ∧ (∀ i, k ≤ i → i < 12 → (l_X1_dropOldest N z a (nI k) σ).2 31 i = rg (i + 1) + 1) ∧ (l_X1_dropOldest N z a (nI k) σ).2 31 12 = a + 1 ∧ (∀ q j, ¬ (q = 31 ∧ k ≤ j) → (l_X1_dropOldest N z a (nI k) σ).2 q j = σ.2 q j) := by
  intro m
  induction m with
  | zero =>
    intro k σ hk g z hz
    obtain ⟨z, rfl⟩ : ∃ y, z = y + 1 := ⟨z - 1, by omega⟩
    have c : (13 : Int32) ≤ nI k + 1 := by rw [nI_1]; exact nI_le (a := 13) (by omega) (by omega)
    rw [q_X1_dropOldest, l_X1_dropOldest, if_pos c]
    unfold u_X1_dropOldest_h0_1
    exact ⟨fun y => absurd c y, rfl, fun i h1 h2 => absurd h1 (by omega), gR_hit, fun q j h => if_neg (by omega)⟩
  | succ m ih =>
    intro k σ hk g z hz
    obtain ⟨z, rfl⟩ : ∃ y, z = y + 1 := ⟨z - 1, by omega⟩
    have c : ¬ (13 : Int32) ≤ nI (k + 1) := nI_ge (b := 13) (by omega) (by decide)
    have eu : u_X1_dropOldest_h0_2 N a (nI k) σ = zuR σ 31 k (rg (k + 1) + 1) := by
      unfold u_X1_dropOldest_h0_2
      rw [nI_1, nI_clamp (by omega), nI_clamp (by omega), g (k + 1) (by omega) (by omega)]
      rfl
    rw [q_X1_dropOldest, l_X1_dropOldest, eu, nI_1, if_neg c, nI_clamp (by omega), g (k + 1) (by omega) (by omega)]
    obtain ⟨i1, i2, i3, i4, i5⟩ := ih (k + 1) (zuR σ 31 k (rg (k + 1) + 1)) (by omega) (fun i i1 i2 => by rw [gR_k (by omega)]; exact g i (by omega) i2) z (by omega)
    refine ⟨fun _ => ⟨vp_in_nI (by omega) (by decide), ⟨by omega, Rly.self (Rly.hist (h6 (k + 1) (by omega)))⟩, vp_in_nI (by omega) (by decide), i1⟩, i2, fun i h1 h2 => ?_, i4, fun q j h => ?_⟩
    · by_cases e : i = k
      · rw [e, i5 _ _ (by omega)]
        exact gR_hit
      · exact i3 i (by omega) h2
    · rw [i5 _ _ (by omega)]
      exact if_neg (by omega)
set_option maxRecDepth 200000 in
/-- the reference keeps a row -/
theorem rf_keep {τ : zS} (hN : 200000 < N) (hp : p ≤ 12) (h4 : τ.1 468 55 = nI p) : p_X9_keepAct N τ ∧ (s_X9_keepAct N τ).1 468 55 = nI (if p = 12 then 12 else p + 1) ∧ (s_X9_keepAct N τ).1 468 56 = 0 ∧ (∀ j, j < 11440 → (s_X9_keepAct N τ).1 498 (11440 * (if p = 12 then 11 else p) + j) = τ.1 469 j) ∧ (∀ j, j < 11440 * (if p = 12 then 11 else p) → (s_X9_keepAct N τ).1 498 j = (if p = 12 then τ.1 498 (11440 + j) else τ.1 498 j)) ∧ (∀ q j, ¬ q = 498 → ¬ (q = 468 ∧ (j = 55 ∨ j = 56)) → (s_X9_keepAct N τ).1 q j = τ.1 q j) ∧ (s_X9_keepAct N τ).2 = τ.2 := by
  by_cases c : p = 12
  · subst c
    obtain ⟨w, hw⟩ : ∃ w, N = w + 148722 := ⟨N - 148722, by omega⟩
    obtain ⟨τ1, i1, i2, i3, i4, i5⟩ := rw_down (N := N) 137280 0 τ (Nat.zero_add _) N (w + 11441) (by omega)
    have e1 : u_X9_keepAct_h0_1 N (nI 137280) τ1 = zuI τ1 468 55 (nI 11) := by
      unfold u_X9_keepAct_h0_1
      rw [i4 _ _ (by omega), h4, nI_s1 (by omega)]
    rw [e1] at i1 i2
    obtain ⟨τ2, j1, j2, j3, j4, j5⟩ := rw_keep (N := N) (p := 11) (by omega) 11440 0 (zuI τ1 468 55 (nI 11)) (Nat.zero_add _) (gI_h rfl rfl) (w + 11441) w (by omega)
    have e2 : u_X9_keepAct_h1_2 N (nI 11440) τ2 = zuI (zuI τ2 468 55 (nI 12)) 468 56 0 := by
      unfold u_X9_keepAct_h1_2 u_X9_keepAct_h1_1
      rw [j4 _ _ (by omega), gI_h rfl rfl, nI_1]
    rw [e2] at j1
    have es : s_X9_keepAct N τ = zuI (zuI τ2 468 55 (nI 12)) 468 56 0 := by
      unfold s_X9_keepAct
      rw [h4, if_pos (show nI 12 = 12 from rfl)]
      exact i1.trans j1
    have pp : p_X9_keepAct N τ := by
      unfold p_X9_keepAct
      rw [h4]
      exact ⟨fun z => absurd rfl z, fun _ => i2 (j2 trivial)⟩
    rw [es, if_pos rfl, if_pos rfl]
    refine ⟨pp, ?_, gI_h rfl rfl, fun j hj => ?_, fun j hj => ?_, fun q j h1 h2 => ?_, j5.trans i5⟩
    · rw [gI_n (by omega), gI_h rfl rfl]
    · rw [gI_n (by omega), gI_n (by omega), j3 j (by omega) hj, gI_n (by omega), i4 _ _ (by omega)]
    · rw [if_pos rfl, gI_n (by omega), gI_n (by omega), j4 _ _ (by omega), gI_n (by omega), i3 j (by omega) (by omega)]
    · rw [gI_n (by omega), gI_n (by omega), j4 _ _ (by omega), gI_n (by omega), i4 _ _ (by omega)]
  · obtain ⟨w, hw⟩ : ∃ w, N = w + 11441 := ⟨N - 11441, by omega⟩
    obtain ⟨τ2, j1, j2, j3, j4, j5⟩ := rw_keep (N := N) (p := p) (by omega) 11440 0 τ (Nat.zero_add _) h4 N w (by omega)
    have e2 : u_X9_keepAct_h1_2 N (nI 11440) τ2 = zuI (zuI τ2 468 55 (nI (p + 1))) 468 56 0 := by
      unfold u_X9_keepAct_h1_2 u_X9_keepAct_h1_1
      rw [j4 _ _ (by omega), h4, nI_1]
    rw [e2] at j1
    have n12 : ¬ nI p = 12 := fun z => c ((nI_eq (b := 12) (by omega) (by decide)).mp z)
    have es : s_X9_keepAct N τ = zuI (zuI τ2 468 55 (nI (p + 1))) 468 56 0 := by
      unfold s_X9_keepAct
      rw [h4, if_neg n12]
      exact j1
    have pp : p_X9_keepAct N τ := by
      unfold p_X9_keepAct
      rw [h4]
      exact ⟨fun _ => j2 trivial, fun z => absurd z n12⟩
    rw [es, if_neg c, if_neg c]
    refine ⟨pp, ?_, gI_h rfl rfl, fun j hj => ?_, fun j hj => ?_, fun q j h1 h2 => ?_, j5⟩
    · rw [gI_n (by omega), gI_h rfl rfl]
    · rw [gI_n (by omega), gI_n (by omega), j3 j (by omega) hj]
    · rw [if_neg c, gI_n (by omega), gI_n (by omega), j4 _ _ (by omega)]
    · rw [gI_n (by omega), gI_n (by omega), j4 _ _ (by omega)]
end HS
