/-! a task alone -/
theorem cl_chg {r N : Nat} {x1 x2 : Int32} {σ : zS} (hN : 500 < N) (hl : Rly r) (hp : ∀ v, v < 4 → σ.2 (r + 4) v = r + 5 + 5 * v + 1) : p_X4_changeHandler r x1 x2 N σ ∧ (s_X4_changeHandler r x1 x2 N σ).1 r 2 = x1 ∧ (s_X4_changeHandler r x1 x2 N σ).1 r 3 = wyN x1 x2 ∧ (∀ v, v < 4 → (s_X4_changeHandler r x1 x2 N σ).1 (r + 5 + 5 * v) 6 = 1 ∧ (s_X4_changeHandler r x1 x2 N σ).1 (r + 5 + 5 * v) 7 = 0) ∧ (∀ q j, ¬ (q = r ∧ (j = 2 ∨ j = 3)) → (∀ v, v < 4 → ¬ (q = r + 5 + 5 * v ∧ (j = 6 ∨ j = 7))) → (s_X4_changeHandler r x1 x2 N σ).1 q j = σ.1 q j) ∧ (s_X4_changeHandler r x1 x2 N σ).2 = σ.2 := by
  have es : s_X4_changeHandler r x1 x2 N σ = l_X4_changeHandler r N N x1 x2 (nI 0) (zuI (zuI σ r 2 x1) r 3 (wyN x1 x2)) := by
    unfold s_X4_changeHandler wyN
    by_cases c1 : x1 = 1
    · rw [if_pos c1, if_pos c1]
      rfl
    · rw [if_neg c1, if_neg c1]
      by_cases c3 : x1 = 3
      · rw [if_pos c3, if_pos c3]
        rfl
      · rw [if_neg c3, if_neg c3]
        rfl
  have lc := fun (x : Int32) => cl_way (N := N) (v1 := x1) (v2 := x2) hl 4 0 (zuI (zuI σ r 2 x1) r 3 x) rfl (fun v hv => hp v hv) N (by omega)
  have pc : p_X4_changeHandler r x1 x2 N σ := ⟨fun _ => (lc x2).1, fun _ => ⟨fun _ => (lc 0).1, fun _ => (lc x2).1⟩⟩
  obtain ⟨-, c2, c3, c4⟩ := lc (wyN x1 x2)
  rw [es]
  refine ⟨pc, ?_, ?_, fun v hv => c2 v (by omega) hv, fun q j h1 h2 => ?_, c4⟩
  · rw [c3 _ _ (fun v _ hv => by omega), gI_n (by omega), gI_h rfl rfl]
  · rw [c3 _ _ (fun v _ hv => by omega), gI_h rfl rfl]
  · rw [c3 q j (fun v _ hv => h2 v hv), gI_n (by omega), gI_n (by omega)]
theorem rf_chg {N : Nat} {x1 x2 : Int32} {τ : zS} (hN : 500 < N) (hw : ¬ f_X8_handlerCanBe x1 x2 = 0) : p_X9_setWay x1 x2 N τ ∧ (s_X9_setWay x1 x2 N τ).1 469 6 = x1 ∧ (s_X9_setWay x1 x2 N τ).1 469 7 = wyN x1 x2 ∧ (∀ v, v < 4 → (s_X9_setWay x1 x2 N τ).1 469 (141 + 20 * v) = 1 ∧ (s_X9_setWay x1 x2 N τ).1 469 (142 + 20 * v) = 0) ∧ (∀ q j, ¬ (q = 469 ∧ (j = 6 ∨ j = 7)) → (∀ v, v < 4 → ¬ (q = 469 ∧ (j = 141 + 20 * v ∨ j = 142 + 20 * v))) → (s_X9_setWay x1 x2 N τ).1 q j = τ.1 q j) ∧ (s_X9_setWay x1 x2 N τ).2 = τ.2 ∧ ∃ y k, y ≤ 3 ∧ k ≤ 16 ∧ x1 = nI y ∧ wyN x1 x2 = nI k ∧ (y = 1 → 1 ≤ k ∧ k ≤ 8) ∧ (y = 3 → 1 ≤ k) := by
  have hwn : wyN x1 x2 = (if x1 = 0 then 0 else if x1 = 2 then 0 else x2) ∧ ∃ y k, y ≤ 3 ∧ k ≤ 16 ∧ x1 = nI y ∧ wyN x1 x2 = nI k ∧ (y = 1 → 1 ≤ k ∧ k ≤ 8) ∧ (y = 3 → 1 ≤ k) := by
    rcases hc_ok hw with e | e | ⟨e, k, k1, k2, k3⟩ | ⟨e, k, k1, k2, k3⟩
    · rw [e]
      exact ⟨rfl, 0, 0, by omega, by omega, rfl, rfl, by omega, by omega⟩
    · rw [e]
      exact ⟨rfl, 2, 0, by omega, by omega, rfl, rfl, by omega, by omega⟩
    · rw [e, k3]
      exact ⟨rfl, 1, k, by omega, by omega, rfl, rfl, by omega, by omega⟩
    · rw [e, k3]
      exact ⟨rfl, 3, k, by omega, by omega, rfl, rfl, by omega, by omega⟩
  obtain ⟨wn1, hwn⟩ := hwn
  have et : s_X9_setWay x1 x2 N τ = l_X9_setWay N N x1 x2 (nI 0) (zuI (zuI τ 469 6 x1) 469 7 (wyN x1 x2)) := by
    unfold s_X9_setWay
    rw [wn1]
    by_cases c1 : x1 = 0
    · rw [if_pos c1, if_pos c1]
      rfl
    · rw [if_neg c1, if_neg c1]
      by_cases c3 : x1 = 2
      · rw [if_pos c3, if_pos c3]
        rfl
      · rw [if_neg c3, if_neg c3]
        rfl
  have lr := fun (x : Int32) => rw_way (N := N) (v1 := x1) (v2 := x2) 4 0 (zuI (zuI τ 469 6 x1) 469 7 x) rfl N (by omega)
  have pr : p_X9_setWay x1 x2 N τ := ⟨fun _ => (lr 0).1, fun _ => ⟨fun _ => (lr x2).1, fun _ => (lr 0).1⟩⟩
  obtain ⟨-, d2, d3, d4⟩ := lr (wyN x1 x2)
  rw [et]
  refine ⟨pr, ?_, ?_, fun v hv => d2 v (by omega) hv, fun q j h1 h2 => ?_, d4, hwn⟩
  · rw [d3 _ _ (fun v _ hv => by omega), gI_n (by omega), gI_h rfl rfl]
  · rw [d3 _ _ (fun v _ hv => by omega), gI_h rfl rfl]
  · rw [d3 q j (fun v _ hv => h2 v hv), gI_n (by omega), gI_n (by omega)]
theorem cl_leave {r N t : Nat} (hl : Rly r) (ht : t < 4) : ∀ (m k : Nat) (σ : zS), k + m = 4 → (∀ v, v < 4 → σ.2 (r + 4) v = r + 5 + 5 * v + 1) → ∀ z, m < z → q_X4_leaveAlone r N z (nI t) (nI k) σ ∧ (l_X4_leaveAlone r N z (nI t) (nI k) σ).1 r 7 = nI t ∧ (∀ v, k ≤ v → v < 4 → (l_X4_leaveAlone r N z (nI t) (nI k) σ).1 (r + 5 + 5 * v) 1 = (if v = t then 0 else 3)) ∧ (∀ q j, ¬ (q = r ∧ j = 7) → (∀ v, k ≤ v → v < 4 → ¬ (q = r + 5 + 5 * v ∧ j = 1)) → (l_X4_leaveAlone r N z (nI t) (nI k) σ).1 q j = σ.1 q j) ∧ (l_X4_leaveAlone r N z (nI t) (nI k) σ).2 = σ.2 := by
  intro m
  induction m with
  | zero =>
    intro k σ hk _ z hz
    obtain ⟨z, rfl⟩ : ∃ y, z = y + 1 := ⟨z - 1, by omega⟩
    have c : (4 : Int32) ≤ nI k := nI_le (a := 4) (by omega) (by omega)
    rw [q_X4_leaveAlone, l_X4_leaveAlone, if_pos c]
    unfold u_X4_leaveAlone_h0_1
    exact ⟨fun y => absurd c y, gI_h rfl rfl, fun v h1 h2 => absurd h1 (by omega), fun q j h _ => gI_n h, rfl⟩
  | succ m ih =>
    intro k σ hk g2 z hz
    obtain ⟨z, rfl⟩ : ∃ y, z = y + 1 := ⟨z - 1, by omega⟩
    have c : ¬ (4 : Int32) ≤ nI k := nI_ge (b := 4) (by omega) (by decide)
    have k4 : k < 4 := by omega
    have e1 : σ.2 (r + 4) (nI k).toNatClampNeg - 1 = r + 5 + 5 * k := by
      rw [nI_clamp (by omega), g2 k k4]
      rfl
    have hne : σ.2 (r + 4) (nI k).toNatClampNeg ≠ 0 := by
      rw [nI_clamp (by omega), g2 k k4]
      omega
    have fin : ∀ x : Int32, x = (if k = t then 0 else 3) → q_X4_leaveAlone r N z (nI t) (nI (k + 1)) (zuI σ (r + 5 + 5 * k) 1 x) ∧ (l_X4_leaveAlone r N z (nI t) (nI (k + 1)) (zuI σ (r + 5 + 5 * k) 1 x)).1 r 7 = nI t ∧ (∀ v, k ≤ v → v < 4 → (l_X4_leaveAlone r N z (nI t) (nI (k + 1)) (zuI σ (r + 5 + 5 * k) 1 x)).1 (r + 5 + 5 * v) 1 = (if v = t then 0 else 3)) ∧ (∀ q j, ¬ (q = r ∧ j = 7) → (∀ v, k ≤ v → v < 4 → ¬ (q = r + 5 + 5 * v ∧ j = 1)) → (l_X4_leaveAlone r N z (nI t) (nI (k + 1)) (zuI σ (r + 5 + 5 * k) 1 x)).1 q j = σ.1 q j) ∧ (l_X4_leaveAlone r N z (nI t) (nI (k + 1)) (zuI σ (r + 5 + 5 * k) 1 x)).2 = σ.2 := fun x hx => by
      obtain ⟨i1, i2, i3, i4, i5⟩ := ih (k + 1) (zuI σ (r + 5 + 5 * k) 1 x) (by omega) g2 z (by omega)
      refine ⟨i1, i2, fun v h1 h2 => ?_, fun q j h1 h2 => ?_, i5⟩
      · by_cases e : v = k
        · subst e
          rw [i4 _ _ (by omega) (fun u _ _ => by omega), gI_h rfl rfl, hx]
        · exact i3 v (by omega) h2
      · have := h2 k (Nat.le_refl _) k4
        rw [i4 q j h1 (fun v v1 v2 => h2 v (by omega) v2), gI_n (by omega)]
    rw [q_X4_leaveAlone, l_X4_leaveAlone, if_neg c]
    unfold u_X4_leaveAlone_h0_3 u_X4_leaveAlone_h0_2
    rw [e1, nI_1]
    by_cases e : k = t
    · have ek : nI k = nI t := by rw [e]
      obtain ⟨f1, f2⟩ := fin 0 (by rw [if_pos e])
      rw [if_pos ek]
      exact ⟨fun _ => ⟨vp_in_nI k4 (by decide), ⟨hne, hl.task k4⟩, fun y => absurd ek y, fun _ => f1⟩, f2⟩
    · have ek : ¬ nI k = nI t := fun y => e ((nI_eq (by omega) (by omega)).mp y)
      obtain ⟨f1, f2⟩ := fin 3 (by rw [if_neg e])
      rw [if_neg ek]
      exact ⟨fun _ => ⟨vp_in_nI k4 (by decide), ⟨hne, hl.task k4⟩, fun _ => f1, fun y => absurd y ek⟩, f2⟩
theorem rf_alone {N t : Nat} {x2 x3 x4 : Int32} (hN : 500 < N) (ht : t < 4) : ∀ (m k : Nat) (τ : zS), k + m = 4 → ∀ z y, z = y + m + 1 → ∃ τ1, l_X9_alone N z (nI t) x2 x3 x4 (nI k) τ = l_X9_alone N (y + 1) (nI t) x2 x3 x4 (nI 4) τ1 ∧ (q_X9_alone N (y + 1) (nI t) x2 x3 x4 (nI 4) τ1 → q_X9_alone N z (nI t) x2 x3 x4 (nI k) τ) ∧ (∀ v, k ≤ v → v < 4 → (∀ i, 1 ≤ i → i < 20 → ¬ i = 5 → τ1.1 469 (136 + 20 * v + i) = 0) ∧ τ1.1 469 (136 + 20 * v) = (if v = t then 0 else 2) ∧ τ1.1 469 (141 + 20 * v) = 1 ∧ τ1.1 469 (236 + 2801 * v) = 0) ∧ (∀ a j, ¬ a = 469 → τ1.1 a j = τ.1 a j) ∧ (∀ j, (j < 136 + 20 * k ∨ (216 ≤ j ∧ j < 236) ∨ 11440 ≤ j ∨ (236 ≤ j ∧ j < 236 + 2801 * k)) → τ1.1 469 j = τ.1 469 j) ∧ τ1.2 = τ.2 := by
  intro m
  induction m with
  | zero =>
    intro k τ hk z y hz
    subst hz
    obtain rfl : k = 4 := by omega
    exact ⟨τ, rfl, fun h => h, fun v h1 h2 => absurd h1 (by omega), fun _ _ _ => rfl, fun _ _ => rfl, rfl⟩
  | succ m ih =>
    intro k τ hk z y hz
    subst hz
    have c : ¬ (4 : Int32) ≤ nI k := nI_ge (b := 4) (by omega) (by decide)
    obtain ⟨c1, c2, c3, c4, c5, c6⟩ := rw_clear (τ := τ) hN (show k ≤ 4 by omega)
    have v0 : vp_in (f_X9_atTask (nI k) 0) 14241 := by rw [at_0]; exact vp_in_nI (by omega) (by decide)
    have ea : (f_X9_atTask (nI k) 0).toNatClampNeg = 136 + 20 * k := by rw [at_0, nI_clamp (by omega), Nat.add_zero]
    have fin : ∀ x : Int32, x = (if k = t then 0 else 2) → ∃ τ1, l_X9_alone N (y + m + 1) (nI t) x2 x3 x4 (nI (k + 1)) (zuI (s_X9_clearTask (nI k) N τ) 469 (136 + 20 * k) x) = l_X9_alone N (y + 1) (nI t) x2 x3 x4 (nI 4) τ1 ∧ (q_X9_alone N (y + 1) (nI t) x2 x3 x4 (nI 4) τ1 → q_X9_alone N (y + m + 1) (nI t) x2 x3 x4 (nI (k + 1)) (zuI (s_X9_clearTask (nI k) N τ) 469 (136 + 20 * k) x)) ∧ (∀ v, k ≤ v → v < 4 → (∀ i, 1 ≤ i → i < 20 → ¬ i = 5 → τ1.1 469 (136 + 20 * v + i) = 0) ∧ τ1.1 469 (136 + 20 * v) = (if v = t then 0 else 2) ∧ τ1.1 469 (141 + 20 * v) = 1 ∧ τ1.1 469 (236 + 2801 * v) = 0) ∧ (∀ a j, ¬ a = 469 → τ1.1 a j = τ.1 a j) ∧ (∀ j, (j < 136 + 20 * k ∨ (216 ≤ j ∧ j < 236) ∨ 11440 ≤ j ∨ (236 ≤ j ∧ j < 236 + 2801 * k)) → τ1.1 469 j = τ.1 469 j) ∧ τ1.2 = τ.2 := fun x hx => by
      obtain ⟨τ1, i1, i2, i3, i4, i5, i6⟩ := ih (k + 1) (zuI (s_X9_clearTask (nI k) N τ) 469 (136 + 20 * k) x) (by omega) (y + m + 1) y rfl
      refine ⟨τ1, i1, i2, fun v h1 h2 => ?_, fun a j h => ?_, fun j h => ?_, i6.trans c6⟩
      · by_cases e : v = k
        · subst e
          refine ⟨fun i q1 q2 q5 => ?_, ?_, ?_, ?_⟩
          · rw [i5 _ (by omega), gI_n (by omega)]
            exact c2 i q2 q5
          · rw [i5 _ (by omega), gI_h rfl rfl, hx]
          · rw [i5 _ (by omega), gI_n (by omega)]
            exact c3
          · rw [i5 _ (by omega), gI_n (by omega)]
            exact c4
        · exact i3 v (by omega) h2
      · rw [i4 a j h, gI_n (by omega), c5 _ _ (by omega)]
      · rw [i5 j (by omega), gI_n (by omega), c5 _ _ (by omega)]
    rw [show y + (m + 1) + 1 = (y + m + 1) + 1 by omega, l_X9_alone, q_X9_alone, if_neg c]
    unfold u_X9_alone_h0_9 u_X9_alone_h0_8 u_X9_alone_h0_7
    rw [ea, nI_1]
    by_cases e : k = t
    · have ek : nI k = nI t := by rw [e]
      obtain ⟨τ1, f1, f2, f3⟩ := fin 0 (by rw [if_pos e])
      rw [if_pos ek]
      exact ⟨τ1, f1, fun h => ⟨fun y => absurd y c, fun _ => ⟨c1, fun y => absurd ek y, fun _ => ⟨v0, f2 h⟩⟩⟩, f3⟩
    · have ek : ¬ nI k = nI t := fun y => e ((nI_eq (by omega) (by omega)).mp y)
      obtain ⟨τ1, f1, f2, f3⟩ := fin 2 (by rw [if_neg e])
      rw [if_neg ek]
      exact ⟨τ1, f1, fun h => ⟨fun y => absurd y c, fun _ => ⟨c1, fun _ => ⟨v0, f2 h⟩, fun y => absurd y ek⟩⟩, f3⟩
/-- how a task that alone is left fares -/
theorem al_cls {al sl r q1 B W n N L F t : Nat} {K : aK} {H tf : Nat → Nat} {gv : Nat → Nat → Int32} {dT dM : Int32} (hN : 500 < N) (ht : t < n) : ∀ (z k j e T M : Nat) (σ τ : zS) (A : Nat → Int32) (D RS TP ST : Nat → Nat) (C : Nat → aC), RX 0 sl al r q1 B W n K L F H tf gv dT dM e T M σ τ A D RS TP ST C → (∀ v, v < n → ¬ v = t → 2 ≤ ST v) → σ.1 (r + 5 + 5 * t) 1 = nI (ST t) → ((ST t = 0 ∧ j = 0) ∨ (ST t = 1 ∧ 1 ≤ j ∧ C t = aIt K (j - 1) (aBegin K (tf t) (gv t)) ∧ ∀ i, i ≤ j - 1 → 1 ≤ dp K (aBegin K (tf t) (gv t)) i ∧ dp K (aBegin K (tf t) (gv t)) i ≤ 60)) → A 3 = nI t → j + z = k → k ≤ 3000 → T + 4 * z < 2 ^ 27 → ∀ y, z < y → ∃ s, s ≤ 3 ∧ (l_X4_playOn r q1 N y (nI k) (nI j) σ).2.1 (r + 5 + 5 * t) 1 = nI s ∧ ((s = 2 ∧ ∃ m, m + 1 ≤ k ∧ (∀ i, i < m → 1 ≤ dp K (aBegin K (tf t) (gv t)) i ∧ dp K (aBegin K (tf t) (gv t)) i ≤ 60) ∧ dp K (aBegin K (tf t) (gv t)) m = 0) ∨ (¬ s = 2 ∧ ∀ m, m + 1 ≤ k → (∀ i, i < m → 1 ≤ dp K (aBegin K (tf t) (gv t)) i ∧ dp K (aBegin K (tf t) (gv t)) i ≤ 60) → ¬ dp K (aBegin K (tf t) (gv t)) m = 0)) := by
  intro z
  induction z with
  | zero =>
    intro k j e T M σ τ A D RS TP ST C h hov hcd hst hA3 hj hk hT y hy
    obtain ⟨y, rfl⟩ : ∃ q, y = q + 1 := ⟨y - 1, by omega⟩
    have c : nI k ≤ nI j := nI_le (by omega) (by omega)
    rw [l_X4_playOn, if_pos c]
    refine ⟨ST t, by omega, hcd, Or.inr ⟨by omega, fun m m1 m2 m3 => ?_⟩⟩
    rcases hst with ⟨s1, s2⟩ | ⟨s1, s2, s3, s4⟩
    · omega
    · have := s4 m (by omega)
      omega
  | succ z ih =>
    intro k j e T M σ τ A D RS TP ST C h hov hcd hst hA3 hj hk hT y hy
    obtain ⟨y, rfl⟩ : ∃ q, y = q + 1 := ⟨y - 1, by omega⟩
    have c : ¬ nI k ≤ nI j := nI_ge (by omega) (by omega)
    have n4 := h.2.2.2.2.2.2.2.2.2.2.1.2.2.2.1
    have c7 : σ.1 r 7 = nI t := (h.2.2.1 r 7 3 (lk_g (by omega))).trans hA3
    have cm : ¬ nI t = -1 := m1_ne (by omega)
    obtain ⟨-, -, A1, D1, RS1, TP1, ST1, T1, M1, g1, g2, g3, g4, g5, g6, g7, g8, g9, g10⟩ := pr_event (N := N) h hN (by omega) ht hA3 (by omega) (fun q => absurd q (by decide))
    have eu : u_X4_playOn_h0_1 r q1 N (nI k) (nI j) σ = s_X4_takeEvent r q1 N σ := rfl
    rw [l_X4_playOn, if_neg c, c7, if_neg cm, eu, nI_1]
    generalize s_X4_takeEvent r q1 N σ = σ1 at g1 g8 g10
    have ex : nxC K tf gv ST C t = aIt K j (aBegin K (tf t) (gv t)) := by
      unfold nxC
      rcases hst with ⟨s1, s2⟩ | ⟨s1, s2, s3, s4⟩
      · rw [if_pos s1, s2]
        rfl
      · rw [if_neg (by omega), s3, ← aIt_s, show j - 1 + 1 = j by omega]
    rw [ex] at g1 g7
    have hov1 : ∀ v, v < n → ¬ v = t → 2 ≤ ST1 v := fun v hv hvt => by rw [g6 v hvt]; exact hov v hv hvt
    have live : ∀ i, i < j → 1 ≤ dp K (aBegin K (tf t) (gv t)) i ∧ dp K (aBegin K (tf t) (gv t)) i ≤ 60 := fun i hi => by
      rcases hst with ⟨s1, s2⟩ | ⟨s1, s2, s3, s4⟩
      · omega
      · exact s4 i (by omega)
    have stop : 2 ≤ ST1 t → (l_X4_playOn r q1 N y (nI k) (nI (j + 1)) σ1).2 = σ1 := fun h2 => by
      obtain ⟨y, rfl⟩ : ∃ q, y = q + 1 := ⟨y - 1, by omega⟩
      have a3 : A1 3 = -1 := by
        rcases g1.2.2.2.2.2.2.2.2.2.2.2.1 with ⟨u, -⟩ | ⟨u, u1, u2, u3⟩
        · exact u
        · exfalso
          by_cases eu : u = t
          · rw [eu] at u3
            omega
          · have := hov1 u u1 eu
            omega
      have c7' : σ1.1 r 7 = -1 := (g1.2.2.1 r 7 3 (lk_g (by omega))).trans a3
      rw [l_X4_playOn]
      by_cases ck : nI k ≤ nI (j + 1)
      · rw [if_pos ck]
      · rw [if_neg ck, if_pos c7']
    have ed : (aIt K j (aBegin K (tf t) (gv t))).1 = dp K (aBegin K (tf t) (gv t)) j := rfl
    rw [ed] at g7
    rcases g7 with ⟨s1, s2, s3⟩ | ⟨s1, s2⟩ | ⟨s1, s2⟩
    · have a3 : A1 3 = nI t := by
        rcases g1.2.2.2.2.2.2.2.2.2.2.2.1 with ⟨-, -, u⟩ | ⟨u, u1, u2, u3⟩
        · have := u t ht
          omega
        · by_cases eu : u = t
          · rw [← eu]
            exact u2
          · have := hov1 u u1 eu
            omega
      exact ih k (j + 1) (e + 1) T1 M1 σ1 _ A1 D1 RS1 TP1 ST1 _ g1 hov1 g10 (Or.inr ⟨s1, by omega, by rw [cu_s, Nat.add_sub_cancel], fun i hi => by
        by_cases ei : i = j
        · rw [ei]
          exact ⟨s2, s3⟩
        · exact live i (by omega)⟩) a3 (by omega) hk (by omega) y (by omega)
    · refine ⟨2, by omega, ?_, Or.inl ⟨rfl, j, by omega, live, s1⟩⟩
      rw [stop (by omega), g10, s2]
    · refine ⟨3, by omega, ?_, Or.inr ⟨by omega, fun m m1 m2 m3 => ?_⟩⟩
      · rw [stop (by omega), g10, s2]
      · by_cases em : m < j
        · have := live m em
          omega
        · by_cases em2 : m = j
          · rw [em2] at m3
            omega
          · have := m2 j (by omega)
            omega
section IS
variable {q1 q2 B W n L F U U1 r p l N : Nat} {K : aK} {H tf rg : Nat → Nat} {gv : Nat → Nat → Int32} {σ σ1 σ2 τ τ1 τ2 : zS} {x1 x2 x3 x4 x5 x6 : Int32}
/-- the trial of a task alone, set up on both sides -/
theorem al_set (h : IV q1 q2 B W n K L F H tf gv p l rg U σ τ) (hN : 200000 < N) {t : Nat} (ht : t < n) (hw : ¬ f_X8_handlerCanBe x2 x3 = 0) : ∃ (σ3 τ2 τ4 : zS) (A : Nat → Int32), u_X8_alone_3 (nI t) x2 x3 x4 N σ = σ3 ∧ s_X9_putAside N τ = τ2 ∧ p_X9_putAside N τ ∧ (p_X4_startAnew 359 q1 N σ ∧ p_X4_leaveAlone 359 (nI t) N (u_X8_alone_1 (nI t) x2 x3 x4 N σ) ∧ p_X4_changeHandler 359 x2 x3 N (u_X8_alone_2 (nI t) x2 x3 x4 N σ)) ∧ RX 0 0 1 359 q1 B W n K L F H tf gv (τ.1 469 1) (τ.1 469 2) 0 0 0 σ3 τ4 A (fun _ => 0) (fun _ => 0) (fun _ => 0) (fun v => if v = t then 0 else 2) (fun _ => aBegin K 0 (fun _ => 0)) ∧ A 3 = nI t ∧ σ3.1 (359 + 5 + 5 * t) 1 = nI 0 ∧ zfr 359 384 σ σ3 ∧ (∀ q j, ¬ q = 469 → τ4.1 q j = τ2.1 q j) ∧ τ4.2 = τ2.2 ∧ τ4.1 469 8 = τ.1 469 8 ∧ τ4.1 469 9 = τ.1 469 9 ∧ (∀ j, j < 11440 → τ2.1 497 j = τ.1 469 j) ∧ (∀ q j, ¬ q = 497 → τ2.1 q j = τ.1 q j) ∧ τ2.2 = τ.2 ∧ l_X9_alone N N (nI t) x2 x3 x4 0 τ2 = (f_X9_camesBy x4 (r_X9_goEvents 2000 N τ4).1 (r_X9_goEvents 2000 N τ4).2, s_X9_bringBack N (r_X9_goEvents 2000 N τ4).2) ∧ (p_X9_goEvents 2000 N τ4 → p_X9_bringBack N (r_X9_goEvents 2000 N τ4).2 → q_X9_alone N N (nI t) x2 x3 x4 0 τ2) := by
  have hpr := h.pr
  have hq := hpr.2.2
  have n4 := h.2.2.2.2.2.1.2.2.2.1
  have ht4 : t < 4 := by omega
  have hH := h.2.2.2.2.1
  have hc := h.2.2.2.2.2.2.2.2.1
  obtain ⟨c1, c2, -, -, -, -, -, -, -, -, c11, c12, c13⟩ := cl_anew (N := N) (n := n) (show 500 < N by omega) Rly.trial (by omega) hc.2.1 hH.2.2.1 hH.2.2.2.2.2.2.2.2.2.1 n4
  have u1 : u_X8_alone_1 (nI t) x2 x3 x4 N σ = s_X4_startAnew 359 q1 N σ := by
    unfold u_X8_alone_1
    rw [hpr.1]
  generalize hs1 : s_X4_startAnew 359 q1 N σ = s1 at c2 c11 c12 c13 u1
  obtain ⟨d1, d2, d3, d4, d5⟩ := cl_leave (N := N) Rly.trial ht4 4 0 s1 rfl c2.1.2.2 N (by omega)
  have u2 : u_X8_alone_2 (nI t) x2 x3 x4 N σ = l_X4_leaveAlone 359 N N (nI t) (nI 0) s1 := by
    unfold u_X8_alone_2
    rw [u1]
    rfl
  generalize hs2 : l_X4_leaveAlone 359 N N (nI t) (nI 0) s1 = s2 at d2 d3 d4 d5 u2
  obtain ⟨e1, e2, e3, e4, e5, e6⟩ := cl_chg (N := N) (x1 := x2) (x2 := x3) (σ := s2) (show 500 < N by omega) Rly.trial (by rw [d5]; exact c2.1.2.2)
  have u3 : u_X8_alone_3 (nI t) x2 x3 x4 N σ = s_X4_changeHandler 359 x2 x3 N s2 := by
    unfold u_X8_alone_3
    rw [u2]
  generalize hs3 : s_X4_changeHandler 359 x2 x3 N s2 = s3 at e2 e3 e4 e5 e6 u3
  obtain ⟨f1, f2, f3, f4⟩ := rf_aside (τ := τ) hN
  generalize hτ2 : s_X9_putAside N τ = τa at f2 f3 f4
  obtain ⟨w, hw1⟩ : ∃ w, N = w + 5 := ⟨N - 5, by omega⟩
  obtain ⟨τ3, g1, g2, g3, g4, g5, g6⟩ := rf_alone (N := N) (x2 := x2) (x3 := x3) (x4 := x4) (by omega) ht4 4 0 τa rfl N w (by omega)
  obtain ⟨k1, k2, k3, k4, k5⟩ := rw_ring (N := N) 12 0 τ3 rfl N (by omega)
  have ek : s_X9_clearRing N τ3 = l_X9_clearRing N N (nI 0) τ3 := rfl
  generalize hτr : l_X9_clearRing N N (nI 0) τ3 = τr at k2 k3 k4 k5 ek
  obtain ⟨m1, m2, m3, m4, m5, m6, m7⟩ := rf_chg (N := N) (τ := τr) (show 500 < N by omega) hw
  generalize hτw : s_X9_setWay x2 x3 N τr = τw at m2 m3 m4 m5 m6
  have a4' : u_X9_alone_h0_4 N (nI t) x2 x3 x4 (nI 4) τ3 = zuI (zuI τw 469 3 (nI t)) 469 4 0 := by
    unfold u_X9_alone_h0_4 u_X9_alone_h0_3 u_X9_alone_h0_2 u_X9_alone_h0_1
    rw [ek, hτw]
  have p1 : ∀ q j, ¬ (q = 359 ∧ (j = 2 ∨ j = 3 ∨ j = 7)) → (∀ v, v < 4 → ¬ (q = 359 + 5 + 5 * v ∧ (j = 1 ∨ j = 6 ∨ j = 7))) → s3.1 q j = s1.1 q j := fun q j z1 z2 => by
    rw [e5 q j (by omega) (fun v hv => by have := z2 v hv; omega), d4 q j (by omega) (fun v _ hv => by have := z2 v hv; omega)]
  -- the row of the trial
  have t4 : ∀ j, ¬ j = 3 → ¬ j = 4 → (zuI (zuI τw 469 3 (nI t)) 469 4 0).1 469 j = τw.1 469 j := fun j z1 z2 => by rw [gI_n (by omega), gI_n (by omega)]
  have tw' : ∀ j, ¬ j = 6 → ¬ j = 7 → (∀ v, v < 4 → ¬ (j = 141 + 20 * v ∨ j = 142 + 20 * v)) → τw.1 469 j = τr.1 469 j := fun j z1 z2 z3 => m5 469 j (by omega) (fun v hv => by have := z3 v hv; omega)
  have o4 : ∀ q j, ¬ q = 469 → (zuI (zuI τw 469 3 (nI t)) 469 4 0).1 q j = τa.1 q j := fun q j z => by rw [gI_n (by omega), gI_n (by omega), m5 q j (by omega) (fun v hv => by omega), k4 q j (by omega), g4 q j z]
  have low : ∀ i, (i = 0 ∨ i = 1 ∨ i = 2 ∨ i = 5 ∨ i = 8 ∨ i = 9 ∨ i = 11) → (zuI (zuI τw 469 3 (nI t)) 469 4 0).1 469 i = τ.1 469 i := fun i hi => by rw [t4 i (by omega) (by omega), tw' i (by omega) (by omega) (fun v hv => by omega), k4 _ _ (by omega), g5 _ (by omega), f3 _ _ (by decide)]
  have B16 : (zuI (zuI τw 469 3 (nI t)) 469 4 0).1 468 16 = nI B := by rw [o4 _ _ (by decide), f3 _ _ (by decide)]; exact h.2.2.2.1
  have oτ : ∀ q j, ¬ q = 469 → ¬ q = 497 → (zuI (zuI τw 469 3 (nI t)) 469 4 0).1 q j = τ.1 q j := fun q j z1 z2 => by rw [o4 q j z1, f3 q j z2]
  have NM4 : NM ((zuI (zuI τw 469 3 (nI t)) 469 4 0).1 469) := by
    refine ⟨?_, fun w hw => ?_, fun v hv => ⟨?_, fun k k1' k2' k5' => ?_⟩⟩
    · rw [t4 10 (by omega) (by omega), tw' 10 (by omega) (by omega) (fun v hv => by omega)]; exact k3
    · rw [t4 _ (by omega) (by omega), t4 _ (by omega) (by omega), tw' _ (by omega) (by omega) (fun v hv => by omega), tw' _ (by omega) (by omega) (fun v hv => by omega)]
      exact k2 w (by omega) hw
    · rw [t4 _ (by omega) (by omega)]; exact (m4 v hv).1
    · rw [t4 _ (by omega) (by omega)]
      by_cases e : k = 6
      · rw [e, show 136 + 20 * v + 6 = 142 + 20 * v by omega]
        exact (m4 v hv).2
      · rw [tw' _ (by omega) (by omega) (fun u hu => by omega), k4 _ _ (by omega)]
        exact (g3 v (by omega) hv).1 k k1' k2' k5'
  have st4 : ∀ v, v < 4 → (zuI (zuI τw 469 3 (nI t)) 469 4 0).1 469 (136 + 20 * v) = nI (if v = t then 0 else 2) := fun v hv => by
    rw [t4 _ (by omega) (by omega), tw' _ (by omega) (by omega) (fun u hu => by omega), k4 _ _ (by omega), (g3 v (by omega) hv).2.1]
    by_cases e : v = t
    · rw [if_pos e, if_pos e]; rfl
    · rw [if_neg e, if_neg e]; rfl
  have cd : ∀ v, v < 4 → s3.1 (359 + 5 + 5 * v) 1 = (if v = t then 0 else 3) := fun v hv => by rw [e5 _ _ (by omega) (fun u hu => by omega)]; exact d3 v (by omega) hv
  have NR3 : NR s3 359 W n := by
    obtain ⟨n1, n2, n3, n4', n5, n6⟩ := c2
    refine ⟨⟨(p1 _ _ (by omega) (fun v hv => by omega)).trans n1.1, (p1 _ _ (by omega) (fun v hv => by omega)).trans n1.2.1, by rw [e6, d5]; exact n1.2.2⟩, fun k hk => ⟨(p1 _ _ (by omega) (fun v hv => by omega)).trans (n2 k hk).1, (p1 _ _ (by omega) (fun v hv => by omega)).trans (n2 k hk).2⟩, (p1 _ _ (by omega) (fun v hv => by omega)).trans n3, (p1 _ _ (by omega) (fun v hv => by omega)).trans n4', (p1 _ _ (by omega) (fun v hv => by omega)).trans n5, fun v hv => ?_⟩
    obtain ⟨y2, y4, y5, y6, y7, y8, y9, y10, y11, z0, z2, zr⟩ := n6 v hv
    exact ⟨(p1 _ _ (by omega) (fun u hu => by omega)).trans y2, (p1 _ _ (by omega) (fun u hu => by omega)).trans y4, (p1 _ _ (by omega) (fun u hu => by omega)).trans y5, (e4 v hv).1, (e4 v hv).2, (p1 _ _ (by omega) (fun u hu => by omega)).trans y8, (p1 _ _ (by omega) (fun u hu => by omega)).trans y9, (p1 _ _ (by omega) (fun u hu => by omega)).trans y10, (p1 _ _ (by omega) (fun u hu => by omega)).trans y11, (p1 _ _ (by omega) (fun u hu => by omega)).trans z0, (p1 _ _ (by omega) (fun u hu => by omega)).trans z2, by rw [e6, d5]; exact zr⟩
  have fz : zfr 359 384 σ s3 := fun q hq1 => ⟨funext fun j => by rw [p1 q j (by omega) (fun v hv => by omega), c12.at (by omega)], by rw [e6, d5]; exact (c12 q (by omega)).2⟩
  obtain ⟨yy, kk, yk1, yk2, yk3, yk4, yk5, yk6⟩ := m7
  have A3 : (zuI (zuI τw 469 3 (nI t)) 469 4 0).1 469 3 = nI t := by rw [gI_n (by omega), gI_h rfl rfl]
  have fin : RX 0 0 1 359 q1 B W n K L F H tf gv (τ.1 469 1) (τ.1 469 2) 0 0 0 s3 (zuI (zuI τw 469 3 (nI t)) 469 4 0) ((zuI (zuI τw 469 3 (nI t)) 469 4 0).1 469) (fun _ => 0) (fun _ => 0) (fun _ => 0) (fun v => if v = t then 0 else 2) (fun _ => aBegin K 0 (fun _ => 0)) := by
    refine rx_new Rly.trial (by omega) NR3 ⟨hH.2.1, B16, (oτ _ _ (by decide) (by decide)).trans hH.2.2.2.1, (oτ _ _ (by decide) (by decide)).trans hH.2.2.2.2.2.2.2.2.2.2.1⟩ (fun i _ => rfl) hH.1 NM4 (h.2.2.2.2.2.1.eq2 ((oτ _ _ (by decide) (by decide))) (fun q j z1 z2 => fz.at (by omega)) (fun q j z1 z2 => oτ _ _ (by omega) (by omega))) (fun v hv => ?_) ⟨yy, kk, yk1, yk2, ?_, ?_, yk5, yk6⟩ ?_ ?_ ?_ (fun z => absurd z (by decide)) (fun z => absurd z (by decide)) (low 1 (by omega)) (low 2 (by omega)) (Or.inr ⟨t, ht, A3, by simp⟩) (fun v hv => ⟨?_, st4 v hv, ?_⟩) (fun z => absurd z (by decide)) (Or.inr ⟨t, fun v _ hvt => by simp [hvt]⟩)
    · rw [t4 _ (by omega) (by omega), tw' _ (by omega) (by omega) (fun u hu => by omega), k4 _ _ (by omega)]
      exact (g3 v (by omega) hv).2.2.2
    · rw [t4 6 (by omega) (by omega), m2]; exact yk3
    · rw [t4 7 (by omega) (by omega), m3]; exact yk4
    · rw [e2, t4 6 (by omega) (by omega), m2]
    · rw [e3, t4 7 (by omega) (by omega), m3]
    · rw [A3, e5 _ _ (by omega) (fun v hv => by omega), d2]
    · by_cases e : v = t
      · simp [e]
      · simp [e]
    · unfold Sx
      rw [cd v hv]
      by_cases e : v = t
      · simp only [e, if_true]
        exact Or.inl rfl
      · simp only [e, if_false]
        simp
  have c4' : (4 : Int32) ≤ nI 4 := by decide
  refine ⟨s3, τa, zuI (zuI τw 469 3 (nI t)) 469 4 0, _, u3, rfl, f1, ⟨c1, by rw [u1]; exact d1, by rw [u2]; exact e1⟩, fin, A3, ?_, fz, o4, ?_, low 8 (by omega), low 9 (by omega), f2, f3, f4, ?_, fun z1 z2 => ?_⟩
  · rw [cd t ht4, if_pos rfl]; rfl
  · show τw.2 = τa.2
    rw [m6, k5, g6]
  · refine Eq.trans (show _ = l_X9_alone N N (nI t) x2 x3 x4 (nI 0) τa from rfl) (g1.trans ?_)
    rw [l_X9_alone, if_pos c4']
    unfold u_X9_alone_h0_6 u_X9_alone_h0_5
    rw [a4']
  · refine show q_X9_alone N N (nI t) x2 x3 x4 (nI 0) τa from g2 ?_
    rw [q_X9_alone]
    unfold u_X9_alone_h0_5
    rw [a4']
    refine ⟨fun _ => ⟨k1, ?_, z1, z2⟩, fun y => absurd c4' y⟩
    unfold u_X9_alone_h0_1
    rw [ek]
    exact m1
theorem pr_alon (h : Inv U σ τ) (hN : 200000 < N) : PR2 U (p_X8_alone x1 x2 x3 x4 N σ) (p_X9_alone x1 x2 x3 x4 N τ) (r_X8_alone x1 x2 x3 x4 N σ) (r_X9_alone x1 x2 x3 x4 N τ) σ τ := by
  have hI := h
  obtain ⟨q1, q2, B, W, n, K, L, F, H, tf, gv, p, l, rg, h⟩ := h
  have n10 : ¬ (1 : Int32) = 0 := by decide
  have hpr := h.pr
  have hq := hpr.2.2
  obtain ⟨a1, a2, a3⟩ := pr_ft (x1 := x1) h hN
  rcases a3 with ⟨-, e2, e3⟩ | ⟨t, ht, rfl, e0, e1, e2, e3, e3b, e4, e5, e6, e7, e8⟩
  · refine pr_same hI (Nat.le_refl _) ⟨(isT h).1, fun y => absurd e3 y⟩ ⟨a2, fun y => absurd e2 y⟩ (x := -1) (y := -1) ?_ ?_ rfl
    · unfold r_X8_alone
      rw [e3, if_pos rfl]
    · unfold r_X9_alone
      rw [e2, if_pos rfl]
  · by_cases c : f_X8_handlerCanBe x2 x3 = 0
    · refine pr_same hI (Nat.le_refl _) ⟨(isT h).1, fun _ y => absurd c y⟩ ⟨a2, fun _ y => absurd (hc_way.trans c) y⟩ (x := -1) (y := -1) ?_ ?_ rfl
      · unfold r_X8_alone
        rw [e0, if_neg n10, if_pos c]
      · unfold r_X9_alone
        rw [e1, if_neg n10, hc_way, if_pos c]
    · have hm : (x4 < 0 ∨ (¬ x4 < 0 ∧ 2 < x4)) → f_X9_isIn x4 0 2 = 0 → PR2 U (p_X8_alone (nI t) x2 x3 x4 N σ) (p_X9_alone (nI t) x2 x3 x4 N τ) (r_X8_alone (nI t) x2 x3 x4 N σ) (r_X9_alone (nI t) x2 x3 x4 N τ) σ τ := fun z e => by
        refine pr_same hI (Nat.le_refl _) ⟨(isT h).1, ?_⟩ ⟨a2, fun _ _ y => absurd e y⟩ (x := -1) (y := -1) ?_ ?_ rfl
        · rcases z with z | ⟨z0, z⟩
          · exact fun _ _ y => absurd z y
          · exact fun _ _ _ y => absurd y (Int32.not_le.mpr z)
        · unfold r_X8_alone
          rw [e0, if_neg n10, if_neg c]
          rcases z with z | ⟨z0, z⟩
          · rw [if_pos z]
          · rw [if_neg z0, if_neg (Int32.not_le.mpr z)]
        · unfold r_X9_alone
          rw [e1, if_neg n10, hc_way, if_neg c, e, if_pos rfl]
      by_cases c0 : x4 < 0
      · exact hm (Or.inl c0) (isIn_lo c0)
      · by_cases c1 : 2 < x4
        · exact hm (Or.inr ⟨c0, c1⟩) (isIn_hi c1)
        · have ei : f_X9_isIn x4 0 2 = 1 := isIn_in c0 c1
          have n4 := h.2.2.2.2.2.1.2.2.2.1
          have ht4 : t < 4 := by omega
          obtain ⟨σ3, τ2, τ4, A, u3, u4, u5, ⟨u6, u7, u8⟩, u9, u10, u11, u12, u13, u14, u15, u16, u17, u18, u19, u20, u21⟩ := al_set (x4 := x4) e3b hN ht c
          obtain ⟨y1, y2, y3, i, A2, D2, RS2, TP2, ST2, C2, T2, M2, j1, j2, j3, j4, j5, j6, j7, j8, j9, j10, -⟩ := pr_play (N := N) (m := 0) (by omega) 2000 2000 0 0 0 0 _ _ _ _ _ _ _ _ u9 (by omega) (by omega) (by omega) (fun q => absurd q (by decide)) N N (by omega) (by omega)
          obtain ⟨s, s1, s2, s3⟩ := al_cls (N := N) (by omega) ht 2000 2000 0 0 0 0 _ _ _ _ _ _ _ _ u9 (fun v _ hvt => by simp [hvt]) (by simp only [if_true]; exact u11) (Or.inl ⟨by simp, rfl⟩) u10 (by omega) (by omega) (by omega) N (by omega)
          have v5 : σ3.2 0 5 - 1 = q1 := by rw [u12.at2 (by omega)]; exact hpr.1
          have uu4 : u_X8_alone_4 (nI t) x2 x3 x4 N σ = (l_X4_playOn 359 q1 N N (nI 2000) (nI 0) σ3).2 := by
            unfold u_X8_alone_4
            rw [u3, v5]
            rfl
          have ge : r_X9_goEvents 2000 N τ4 = l_X9_goEvents N N (nI 2000) (nI 0) τ4 := rfl
          generalize hr1 : l_X4_playOn 359 q1 N N (nI 2000) (nI 0) σ3 = rσ at y3 j2 j9 s2 uu4
          generalize hr2 : l_X9_goEvents N N (nI 2000) (nI 0) τ4 = rτ at y3 j2 j3 j10 ge
          have fs : zfr 359 384 σ rσ.2 := u12.tr j9
          have hcl : CL rσ.2 := h.2.2.2.2.2.2.2.2.1.trial fs j2.2.1.2.2
          have tk := tk_eq j2.2.1.2.2 ht4
          have pt := tk_p Rly.trial j2.2.1.2.2 ht4
          have scs : ∀ (σ5 : zS), zfr 359 384 σ σ5 → ∀ q, ¬ scC q → σ5.1 q = σ.1 q ∧ σ5.2 q = σ.2 q := fun σ5 f5 q hq1 => f5 q (by have : ¬ ((359 ≤ q ∧ q < 394) ∨ (444 ≤ q ∧ q < 468)) := hq1; omega)
          have p0 : (σ3.2 0 5 ≠ 0 ∧ zlay (σ3.2 0 5 - 1) = (2, 16)) := by rw [u12.at2 (by omega)]; exact hpr.2.1
          obtain ⟨A0, D0, RS0, TP0, ST0, C0, T0, M0, E0, g1, g2, ⟨cc, cc1, cc2⟩, g3, -⟩ := h.get
          have nown : f_X1_now rσ.2 = rg p ∧ p_X1_now rσ.2 := by
            unfold f_X1_now p_X1_now at *
            rw [fs.at (q := 30) (by omega), (fs 31 (by omega)).2]
            exact ⟨g1, g2⟩
          have pc : p_X8_alone (nI t) x2 x3 x4 N σ := by
            refine ⟨(isT h).1, fun _ _ _ _ => ⟨hpr.2.1, by rw [hpr.1]; exact u6, u7, u8, by rw [u3]; exact p0, by rw [u3, v5]; exact y1, by rw [uu4]; exact pt, fun _ => by rw [uu4]; exact nown.2⟩⟩
          have fz : zfr 468 501 τ (r_X9_goTaskPlain (nI t) N τ).2 := fun q hq1 => ⟨funext fun j => e7.2 q j (sPl_z hq1), by rw [e7.1]⟩
          have un : u_X9_alone_1 (nI t) x2 x3 x4 N τ = (r_X9_goTaskPlain (nI t) N τ).2 := rfl
          unfold PR2
          refine ⟨pc, ?_⟩
          rcases e8 with ⟨z1, z2, z3⟩ | ⟨z1, z2, k, z3⟩
          · -- it does not come to an end in time
            have hs2 : ¬ s = 2 := by
              rcases s3 with ⟨-, m, m1, m2, m3⟩ | ⟨w, -⟩
              · exact absurd m3 (z3 m (by omega) m2)
              · exact w
            have cs : ¬ rσ.2.1 (359 + 5 + 5 * t) 1 = 2 := by
              rw [s2]
              exact fun w => hs2 ((nI2 s1 2 (by omega)).mp w)
            have ec : r_X8_alone (nI t) x2 x3 x4 N σ = (-1, rσ.2) := by
              unfold r_X8_alone
              rw [e0, if_neg n10, if_neg c, if_neg c0, if_pos (Int32.not_lt.mp c1), uu4, tk, if_neg cs]
            have er : r_X9_alone (nI t) x2 x3 x4 N τ = (-1, (r_X9_goTaskPlain (nI t) N τ).2) := by
              unfold r_X9_alone
              rw [e1, if_neg n10, hc_way, if_neg c, ei, if_neg n10, z2, if_pos rfl, un]
            rw [ec, er]
            exact ⟨⟨a2, fun _ _ _ => ⟨e2, fun y => absurd z2 y⟩⟩, rfl, ⟨q1, q2, B, W, n, K, L, F, H, tf, gv, p, l, rg, e3b.scr (scs _ fs) hcl (fun _ _ _ => rfl)⟩, fs.wk (by omega), fz⟩
          · -- it does
            have hs2 : s = 2 := by
              rcases s3 with ⟨w, -⟩ | ⟨-, w⟩
              · exact w
              · exact absurd z3.2.2.1 (w k (by have := z3.1; omega) z3.2.1)
            have cs : rσ.2.1 (359 + 5 + 5 * t) 1 = 2 := by rw [s2, hs2]; rfl
            have uu5 : u_X8_alone_6 (nI t) x2 x3 x4 N σ = zuI (zuI rσ.2 359 4 (σ.1 (rg p) 4)) 359 5 (σ.1 (rg p) 5) := by
              unfold u_X8_alone_6 u_X8_alone_5
              rw [uu4, nown.1, gI_n (by omega), fs.at (by omega), fs.at (by omega)]
            have fs6 : zfr 359 384 σ (zuI (zuI rσ.2 359 4 (σ.1 (rg p) 4)) 359 5 (σ.1 (rg p) 5)) := (fs.uI (by omega)).uI (by omega)
            have m497 : ∀ j, j < 11440 → rτ.2.1 497 j = (r_X9_goTaskPlain (nI t) N τ).2.1 469 j := fun j hj => by rw [j10.2 _ _ (fun w => by unfold sYa at w; omega), u13 _ _ (by decide), u17 j hj]
            obtain ⟨b1, b2, b3, -⟩ := e3b.trial (N := N) (σ1 := zuI (zuI rσ.2 359 4 (σ.1 (rg p) 4)) 359 5 (σ.1 (rg p) 5)) (τ2 := rτ.2) hN m497 (scs _ fs6) (hcl.eq rfl) (fun q j w1 w2 w3 => by rw [j10.2 _ _ (fun w => by unfold sYa at w; omega), u13 _ _ w1, u18 _ _ (by omega)]) (by rw [j10.1, u14, u19])
            have mm8 : rτ.2.1 469 8 = (r_X9_goTaskPlain (nI t) N τ).2.1 469 8 := by
              have := (j7 8 (by omega) (by omega))
              rw [j2.2.2.2.2.2.2.1 8 (by omega), this, ← u9.2.2.2.2.2.2.1 8 (by omega)]
              exact u15
            have mm9 : rτ.2.1 469 9 = (r_X9_goTaskPlain (nI t) N τ).2.1 469 9 := by
              have := (j7 9 (by omega) (by omega))
              rw [j2.2.2.2.2.2.2.1 9 (by omega), this, ← u9.2.2.2.2.2.2.1 9 (by omega)]
              exact u16
            have p8 : (r_X9_goTaskPlain (nI t) N τ).2.1 469 8 = σ.1 (rg p) 4 := by
              rw [e7.2 _ _ (fun w => by unfold sPl at w; omega), g3.2.2.2.2.2.2.1 8 (by omega), g3.2.2.1 _ 4 8 (lk_g (by omega))]
            have p9 : (r_X9_goTaskPlain (nI t) N τ).2.1 469 9 = σ.1 (rg p) 5 := by
              rw [e7.2 _ _ (fun w => by unfold sPl at w; omega), g3.2.2.2.2.2.2.1 9 (by omega), g3.2.2.1 _ 5 9 (lk_g (by omega))]
            obtain ⟨o1, o2, o3, o4, -⟩ := j2.2.2.2.1
            have d1 : rτ.2.1 469 1 - rτ.2.1 497 1 = nI T2 := by
              rw [j2.2.2.2.2.2.2.1 1 (by omega), o3, m497 1 (by omega)]
              grind
            have d2 : rτ.2.1 469 2 - rτ.2.1 497 2 = nI M2 := by
              rw [j2.2.2.2.2.2.2.1 2 (by omega), o4, m497 2 (by omega)]
              grind
            have q10 : (zuI (zuI rσ.2 359 4 (σ.1 (rg p) 4)) 359 5 (σ.1 (rg p) 5)).1 359 10 = nI T2 := by rw [gI_n (by omega), gI_n (by omega), o1]
            have q11 : (zuI (zuI rσ.2 359 4 (σ.1 (rg p) 4)) 359 5 (σ.1 (rg p) 5)).1 359 11 = nI M2 := by rw [gI_n (by omega), gI_n (by omega), o2]
            have q4 : (zuI (zuI rσ.2 359 4 (σ.1 (rg p) 4)) 359 5 (σ.1 (rg p) 5)).1 359 4 = σ.1 (rg p) 4 := by rw [gI_n (by omega), gI_h rfl rfl]
            have q5 : (zuI (zuI rσ.2 359 4 (σ.1 (rg p) 4)) 359 5 (σ.1 (rg p) 5)).1 359 5 = σ.1 (rg p) 5 := gI_h rfl rfl
            have un2 : u_X9_alone_2 (nI t) x2 x3 x4 N τ = τ2 := u4
            have er : r_X9_alone (nI t) x2 x3 x4 N τ = (f_X9_camesBy x4 rτ.1 rτ.2, s_X9_bringBack N rτ.2) := by
              unfold r_X9_alone
              rw [e1, if_neg n10, hc_way, if_neg c, ei, if_neg n10, z2, if_neg n10, un2, u20, ge]
            have pr : p_X9_alone (nI t) x2 x3 x4 N τ := by
              refine ⟨a2, fun _ _ _ => ⟨e2, fun _ => ⟨u5, ?_⟩⟩⟩
              rw [un2]
              rw [ge] at u21
              exact u21 y2 b1
            have hI' : Inv U (zuI (zuI rσ.2 359 4 (σ.1 (rg p) 4)) 359 5 (σ.1 (rg p) 5)) (s_X9_bringBack N rτ.2) := ⟨q1, q2, B, W, n, K, L, F, H, tf, gv, p, l, rg, b2⟩
            unfold r_X8_alone
            rw [er, e0, if_neg n10, if_neg c, if_neg c0, if_pos (Int32.not_lt.mp c1), uu4, tk, if_pos cs, uu5]
            refine ⟨pr, ?_⟩
            unfold f_X9_camesBy f_X4_cost
            rw [d1, d2, mm8, mm9, p8, p9, q10, q11, q4, q5]
            by_cases w0 : x4 = 0
            · rw [if_pos w0, if_pos w0]
              exact ⟨rfl, hI', fs6.wk (by omega), fz.tr b3⟩
            · rw [if_neg w0, if_neg w0]
              by_cases w1 : x4 = 1
              · rw [if_pos w1, if_pos w1]
                exact ⟨rfl, hI', fs6.wk (by omega), fz.tr b3⟩
              · rw [if_neg w1, if_neg w1]
                have w2 : x4 = 2 := by
                  rcases pk_ix x4 (n := 3) (by decide) with y | y | ⟨j, hj, rfl⟩
                  · exact absurd y c0
                  · exact absurd (Int32.lt_of_lt_of_le (by decide) y) c1
                  · rcases (show j = 0 ∨ j = 1 ∨ j = 2 by omega) with rfl | rfl | rfl
                    · exact absurd rfl w0
                    · exact absurd rfl w1
                    · rfl
                rw [if_pos w2]
                exact ⟨rfl, hI', fs6.wk (by omega), fz.tr b3⟩
end IS
