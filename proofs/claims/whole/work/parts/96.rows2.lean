/-! a task, the windows, the guesses of the reference -/
theorem rw_clear {N t : Nat} {τ : zS} (hN : 500 < N) (ht : t ≤ 4) : p_X9_clearTask (nI t) N τ ∧ (∀ k, k < 20 → ¬ k = 5 → (s_X9_clearTask (nI t) N τ).1 469 (136 + 20 * t + k) = 0) ∧ (s_X9_clearTask (nI t) N τ).1 469 (141 + 20 * t) = 1 ∧ (s_X9_clearTask (nI t) N τ).1 469 (236 + 2801 * t) = 0 ∧ (∀ a j, ¬ (a = 469 ∧ (136 + 20 * t ≤ j ∧ j < 156 + 20 * t) ∨ (a = 469 ∧ j = 236 + 2801 * t)) → (s_X9_clearTask (nI t) N τ).1 a j = τ.1 a j) ∧ (s_X9_clearTask (nI t) N τ).2 = τ.2 := by
  obtain ⟨τ1, i1, i2, i3, i4, i5⟩ := rw_tsk (N := N) ht 20 0 τ rfl N (N - 21) (by omega)
  have es : s_X9_clearTask (nI t) N τ = zuI (zuI τ1 469 (141 + 20 * t) 1) 469 (236 + 2801 * t) 0 := by
    refine Eq.trans i1 ?_
    unfold u_X9_clearTask_h0_2 u_X9_clearTask_h0_1
    rw [at_5, li_n, nI_clamp (by omega), nI_clamp (by omega), show 136 + 20 * t + 5 = 141 + 20 * t by omega]
  refine ⟨i2 trivial, ?_⟩
  rw [es]
  refine ⟨fun k hk h5 => ?_, ?_, gI_h rfl rfl, fun a j h => ?_, i5⟩
  · rw [gI_n (by omega), gI_n (by omega), i3 k (by omega) hk]
  · rw [gI_n (by omega), gI_h rfl rfl]
  · rw [gI_n (by omega), gI_n (by omega), i4 _ _ (by omega)]
theorem rw_ring {N : Nat} : ∀ (m k : Nat) (τ : zS), k + m = 12 → ∀ z, m < z → q_X9_clearRing N z (nI k) τ ∧ (∀ w, k ≤ w → w < 12 → (l_X9_clearRing N z (nI k) τ).1 469 (12 + w) = -1 ∧ (l_X9_clearRing N z (nI k) τ).1 469 (24 + w) = -1) ∧ (l_X9_clearRing N z (nI k) τ).1 469 10 = -1 ∧ (∀ a j, ¬ (a = 469 ∧ (j = 10 ∨ (12 + k ≤ j ∧ j < 24) ∨ (24 + k ≤ j ∧ j < 36))) → (l_X9_clearRing N z (nI k) τ).1 a j = τ.1 a j) ∧ (l_X9_clearRing N z (nI k) τ).2 = τ.2 := by
  intro m
  induction m with
  | zero =>
    intro k τ hk z hz
    obtain ⟨z, rfl⟩ : ∃ y, z = y + 1 := ⟨z - 1, by omega⟩
    have c : (12 : Int32) ≤ nI k := nI_le (a := 12) (by omega) (by omega)
    rw [q_X9_clearRing, l_X9_clearRing, if_pos c]
    unfold u_X9_clearRing_h0_1
    exact ⟨fun y => absurd c y, fun w h1 h2 => absurd h1 (by omega), gI_h rfl rfl, fun a j h => gI_n (by omega), rfl⟩
  | succ m ih =>
    intro k τ hk z hz
    obtain ⟨z, rfl⟩ : ∃ y, z = y + 1 := ⟨z - 1, by omega⟩
    have c : ¬ (12 : Int32) ≤ nI k := nI_ge (b := 12) (by omega) (by decide)
    have eu : u_X9_clearRing_h0_3 N (nI k) τ = zuI (zuI τ 469 (12 + k) (-1)) 469 (24 + k) (-1) := by
      unfold u_X9_clearRing_h0_3 u_X9_clearRing_h0_2
      rw [(show (12 : Int32) = nI 12 from rfl), (show (24 : Int32) = nI 24 from rfl), nI_add, nI_add, nI_clamp (by omega), nI_clamp (by omega)]
    have e12 : (12 : Int32) + nI k = nI (12 + k) := nI_add 12 k
    have e24 : (24 : Int32) + nI k = nI (24 + k) := nI_add 24 k
    rw [q_X9_clearRing, l_X9_clearRing, if_neg c, eu, nI_1, e12, e24]
    obtain ⟨i1, i2, i3, i4, i5⟩ := ih (k + 1) (zuI (zuI τ 469 (12 + k) (-1)) 469 (24 + k) (-1)) (by omega) z (by omega)
    refine ⟨fun _ => ⟨vp_in_nI (by omega) (by decide), vp_in_nI (by omega) (by decide), i1⟩, fun w h1 h2 => ?_, i3, fun a j h => ?_, i5⟩
    · by_cases e : w = k
      · subst e
        rw [i4 _ _ (by omega), i4 _ _ (by omega), gI_n (by omega), gI_h rfl rfl, gI_h rfl rfl]
        exact ⟨rfl, rfl⟩
      · exact i2 w (by omega) h2
    · rw [i4 _ _ (by omega), gI_n (by omega), gI_n (by omega)]
theorem rw_way {N : Nat} {v1 v2 : Int32} : ∀ (m k : Nat) (τ : zS), k + m = 4 → ∀ z, m < z → q_X9_setWay N z v1 v2 (nI k) τ ∧ (∀ v, k ≤ v → v < 4 → (l_X9_setWay N z v1 v2 (nI k) τ).1 469 (141 + 20 * v) = 1 ∧ (l_X9_setWay N z v1 v2 (nI k) τ).1 469 (142 + 20 * v) = 0) ∧ (∀ a j, (∀ v, k ≤ v → v < 4 → ¬ (a = 469 ∧ (j = 141 + 20 * v ∨ j = 142 + 20 * v))) → (l_X9_setWay N z v1 v2 (nI k) τ).1 a j = τ.1 a j) ∧ (l_X9_setWay N z v1 v2 (nI k) τ).2 = τ.2 := by
  intro m
  induction m with
  | zero =>
    intro k τ hk z hz
    obtain ⟨z, rfl⟩ : ∃ y, z = y + 1 := ⟨z - 1, by omega⟩
    have c : (4 : Int32) ≤ nI k := nI_le (a := 4) (by omega) (by omega)
    rw [q_X9_setWay, l_X9_setWay, if_pos c]
    exact ⟨fun y => absurd c y, fun w h1 h2 => absurd h1 (by omega), fun a j h => rfl, rfl⟩
  | succ m ih =>
    intro k τ hk z hz
    obtain ⟨z, rfl⟩ : ∃ y, z = y + 1 := ⟨z - 1, by omega⟩
    have c : ¬ (4 : Int32) ≤ nI k := nI_ge (b := 4) (by omega) (by decide)
    have eu : u_X9_setWay_h0_2 N v1 v2 (nI k) τ = zuI (zuI τ 469 (136 + 20 * k + 5) 1) 469 (136 + 20 * k + 6) 0 := by
      unfold u_X9_setWay_h0_2 u_X9_setWay_h0_1
      rw [at_5, at_6, nI_clamp (by omega), nI_clamp (by omega)]
    rw [q_X9_setWay, l_X9_setWay, if_neg c, eu, nI_1, at_5, at_6]
    obtain ⟨i1, i2, i3, i4⟩ := ih (k + 1) (zuI (zuI τ 469 (136 + 20 * k + 5) 1) 469 (136 + 20 * k + 6) 0) (by omega) z (by omega)
    refine ⟨fun _ => ⟨vp_in_nI (by omega) (by decide), vp_in_nI (by omega) (by decide), i1⟩, fun w h1 h2 => ?_, fun a j h => ?_, i4⟩
    · by_cases e : w = k
      · subst e
        rw [i3 _ _ (fun v _ _ => by omega), i3 _ _ (fun v _ _ => by omega), gI_n (by omega), gI_h rfl (by omega), gI_h rfl (by omega)]
        exact ⟨rfl, rfl⟩
      · exact i2 w (by omega) h2
    · have := h k (Nat.le_refl _) (by omega)
      rw [i3 _ _ (fun v h1 h2 => h v (by omega) h2), gI_n (by omega), gI_n (by omega)]
theorem rw_swap {N p : Nat} (hp : p < 13) : ∀ (m k : Nat) (τ : zS), k + m = 11440 → τ.1 468 55 = nI p → ∀ z, m < z → q_X9_swapAll N z (nI k) τ ∧ (∀ j, k ≤ j → j < 11440 → (l_X9_swapAll N z (nI k) τ).1 469 j = τ.1 498 (11440 * p + j) ∧ (l_X9_swapAll N z (nI k) τ).1 498 (11440 * p + j) = τ.1 469 j) ∧ (∀ a j, ¬ (a = 469 ∧ k ≤ j ∧ j < 11440) → ¬ (a = 498 ∧ 11440 * p + k ≤ j ∧ j < 11440 * p + 11440) → (l_X9_swapAll N z (nI k) τ).1 a j = τ.1 a j) ∧ (l_X9_swapAll N z (nI k) τ).2 = τ.2 := by
  intro m
  induction m with
  | zero =>
    intro k τ hk h0 z hz
    obtain ⟨z, rfl⟩ : ∃ y, z = y + 1 := ⟨z - 1, by omega⟩
    have c : (11440 : Int32) ≤ nI k := nI_le (a := 11440) (by omega) (by omega)
    rw [q_X9_swapAll, l_X9_swapAll, if_pos c]
    exact ⟨fun y => absurd c y, fun w h1 h2 => absurd h1 (by omega), fun a j _ _ => rfl, rfl⟩
  | succ m ih =>
    intro k τ hk h0 z hz
    obtain ⟨z, rfl⟩ : ∃ y, z = y + 1 := ⟨z - 1, by omega⟩
    have c : ¬ (11440 : Int32) ≤ nI k := nI_ge (b := 11440) (by omega) (by decide)
    have ei : (11440 * (τ.1 468 55)) + nI k = nI (11440 * p + k) := by rw [h0, (show (11440 : Int32) = nI 11440 from rfl), pk_mul, nI_add]
    have eu : u_X9_swapAll_h0_2 N (nI k) τ = zuI (zuI τ 498 (11440 * p + k) (τ.1 469 k)) 469 k (τ.1 498 (11440 * p + k)) := by
      unfold u_X9_swapAll_h0_2 u_X9_swapAll_h0_1
      rw [ei, nI_clamp (by omega), nI_clamp (by omega)]
    rw [q_X9_swapAll, l_X9_swapAll, if_neg c, eu, nI_1, ei]
    obtain ⟨i1, i2, i3, i4⟩ := ih (k + 1) (zuI (zuI τ 498 (11440 * p + k) (τ.1 469 k)) 469 k (τ.1 498 (11440 * p + k))) (by omega) (by rw [gI_n (by omega), gI_n (by omega)]; exact h0) z (by omega)
    refine ⟨fun _ => ⟨vp_in_nI (by omega) (by decide), vp_in_nI (by omega) (by decide), i1⟩, fun w h1 h2 => ?_, fun a j h h' => ?_, i4⟩
    · by_cases e : w = k
      · subst e
        rw [i3 _ _ (by omega) (by omega), i3 _ _ (by omega) (by omega), gI_h rfl rfl, gI_n (by omega), gI_h rfl rfl]
        exact ⟨rfl, rfl⟩
      · rw [(i2 w (by omega) h2).1, (i2 w (by omega) h2).2, gI_n (by omega), gI_n (by omega), gI_n (by omega), gI_n (by omega)]
        exact ⟨rfl, rfl⟩
    · rw [i3 _ _ (by omega) (by omega), gI_n (by omega), gI_n (by omega)]
