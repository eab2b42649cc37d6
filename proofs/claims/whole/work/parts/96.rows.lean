/-! the reference's loops over its rows (printed by wip/whole/p96.py) -/
theorem rw_aside {N : Nat} : ∀ (m k : Nat) (τ : zS), k + m = 11440 → ∀ z y, z = y + m + 1 → ∃ τ1, l_X9_putAside N z (nI k) τ = τ1 ∧ (True → q_X9_putAside N z (nI k) τ) ∧ (∀ j, k ≤ j → j < 11440 → τ1.1 497 (j) = τ.1 469 (j)) ∧ (∀ a j, ¬ (a = 497 ∧ k ≤ j ∧ j < 11440) → τ1.1 a j = τ.1 a j) ∧ τ1.2 = τ.2 := by
  intro m
  induction m with
  | zero =>
    intro k τ hk z y hz
    subst hz
    obtain rfl : k = 11440 := by omega
    have c : (11440 : Int32) ≤ nI 11440 := nI_le (a := 11440) (Nat.le_refl _) (by decide)
    rw [show y + 0 + 1 = y + 1 from rfl, l_X9_putAside, q_X9_putAside, if_pos c]
    exact ⟨τ, rfl, fun h => fun y => absurd c y, fun j h1 h2 => absurd h1 (by omega), fun _ _ _ => rfl, rfl⟩
  | succ m ih =>
    intro k τ hk z y hz
    subst hz
    have c : ¬ (11440 : Int32) ≤ nI k := nI_ge (b := 11440) (by omega) (by decide)
    have eu : u_X9_putAside_h0_1 N (nI k) τ = zuI τ 497 (k) (τ.1 469 (k)) := by
      unfold u_X9_putAside_h0_1
      rw [nI_clamp (by omega)]
    rw [show y + (m + 1) + 1 = (y + m + 1) + 1 by omega, l_X9_putAside, q_X9_putAside, if_neg c, eu, nI_1]
    obtain ⟨τ1, i1, i2, i3, i4, i5⟩ := ih (k + 1) (zuI τ 497 (k) (τ.1 469 (k))) (by omega) (y + m + 1) y rfl
    refine ⟨τ1, i1, fun h => fun _ => ⟨vp_in_nI (by omega) (by decide), vp_in_nI (by omega) (by decide), i2 h⟩, fun j h1 h2 => ?_, fun a j h => ?_, i5⟩
    · by_cases e : j = k
      · subst e
        rw [i4 _ _ (by omega), gI_h rfl rfl]
      · rw [i3 j (by omega) h2, gI_n (by omega)]
    · rw [i4 _ _ (by omega), gI_n (by omega)]
theorem rw_bring {N : Nat} : ∀ (m k : Nat) (τ : zS), k + m = 11440 → ∀ z y, z = y + m + 1 → ∃ τ1, l_X9_bringBack N z (nI k) τ = τ1 ∧ (True → q_X9_bringBack N z (nI k) τ) ∧ (∀ j, k ≤ j → j < 11440 → τ1.1 469 (j) = τ.1 497 (j)) ∧ (∀ a j, ¬ (a = 469 ∧ k ≤ j ∧ j < 11440) → τ1.1 a j = τ.1 a j) ∧ τ1.2 = τ.2 := by
  intro m
  induction m with
  | zero =>
    intro k τ hk z y hz
    subst hz
    obtain rfl : k = 11440 := by omega
    have c : (11440 : Int32) ≤ nI 11440 := nI_le (a := 11440) (Nat.le_refl _) (by decide)
    rw [show y + 0 + 1 = y + 1 from rfl, l_X9_bringBack, q_X9_bringBack, if_pos c]
    exact ⟨τ, rfl, fun h => fun y => absurd c y, fun j h1 h2 => absurd h1 (by omega), fun _ _ _ => rfl, rfl⟩
  | succ m ih =>
    intro k τ hk z y hz
    subst hz
    have c : ¬ (11440 : Int32) ≤ nI k := nI_ge (b := 11440) (by omega) (by decide)
    have eu : u_X9_bringBack_h0_1 N (nI k) τ = zuI τ 469 (k) (τ.1 497 (k)) := by
      unfold u_X9_bringBack_h0_1
      rw [nI_clamp (by omega)]
    rw [show y + (m + 1) + 1 = (y + m + 1) + 1 by omega, l_X9_bringBack, q_X9_bringBack, if_neg c, eu, nI_1]
    obtain ⟨τ1, i1, i2, i3, i4, i5⟩ := ih (k + 1) (zuI τ 469 (k) (τ.1 497 (k))) (by omega) (y + m + 1) y rfl
    refine ⟨τ1, i1, fun h => fun _ => ⟨vp_in_nI (by omega) (by decide), vp_in_nI (by omega) (by decide), i2 h⟩, fun j h1 h2 => ?_, fun a j h => ?_, i5⟩
    · by_cases e : j = k
      · subst e
        rw [i4 _ _ (by omega), gI_h rfl rfl]
      · rw [i3 j (by omega) h2, gI_n (by omega)]
    · rw [i4 _ _ (by omega), gI_n (by omega)]
theorem rw_down {N : Nat} : ∀ (m k : Nat) (τ : zS), k + m = 137280 → ∀ z y, z = y + m + 1 → ∃ τ1, l_X9_keepAct N z 0 (nI k) τ = l_X9_keepAct N y 1 0 (u_X9_keepAct_h0_1 N (nI 137280) τ1) ∧ (q_X9_keepAct N y 1 0 (u_X9_keepAct_h0_1 N (nI 137280) τ1) → q_X9_keepAct N z 0 (nI k) τ) ∧ (∀ j, k ≤ j → j < 137280 → τ1.1 498 (j) = τ.1 498 (11440 + j)) ∧ (∀ a j, ¬ (a = 498 ∧ k ≤ j ∧ j < 137280) → τ1.1 a j = τ.1 a j) ∧ τ1.2 = τ.2 := by
  intro m
  induction m with
  | zero =>
    intro k τ hk z y hz
    subst hz
    obtain rfl : k = 137280 := by omega
    have c : (137280 : Int32) ≤ nI 137280 := nI_le (a := 137280) (Nat.le_refl _) (by decide)
    rw [show y + 0 + 1 = y + 1 from rfl, l_X9_keepAct, q_X9_keepAct, if_pos c]
    exact ⟨τ, rfl, fun h => ⟨fun _ => h, fun y => absurd c y⟩, fun j h1 h2 => absurd h1 (by omega), fun _ _ _ => rfl, rfl⟩
  | succ m ih =>
    intro k τ hk z y hz
    subst hz
    have c : ¬ (137280 : Int32) ≤ nI k := nI_ge (b := 137280) (by omega) (by decide)
    have eu : u_X9_keepAct_h0_2 N (nI k) τ = zuI τ 498 (k) (τ.1 498 (11440 + k)) := by
      unfold u_X9_keepAct_h0_2
      rw [(show (11440 : Int32) = nI 11440 from rfl), nI_add, nI_clamp (by omega), nI_clamp (by omega), Nat.add_comm]
    rw [show y + (m + 1) + 1 = (y + m + 1) + 1 by omega, l_X9_keepAct, q_X9_keepAct, if_neg c, eu, nI_1]
    obtain ⟨τ1, i1, i2, i3, i4, i5⟩ := ih (k + 1) (zuI τ 498 (k) (τ.1 498 (11440 + k))) (by omega) (y + m + 1) y rfl
    refine ⟨τ1, i1, fun h => ⟨fun y => absurd y c, fun _ => ⟨by rw [(show (11440 : Int32) = nI 11440 from rfl), nI_add]; exact vp_in_nI (by omega) (by decide), vp_in_nI (by omega) (by decide), i2 h⟩⟩, fun j h1 h2 => ?_, fun a j h => ?_, i5⟩
    · by_cases e : j = k
      · subst e
        rw [i4 _ _ (by omega), gI_h rfl rfl]
      · rw [i3 j (by omega) h2, gI_n (by omega)]
    · rw [i4 _ _ (by omega), gI_n (by omega)]
theorem rw_keep {N p : Nat} (hp : p < 13) : ∀ (m k : Nat) (τ : zS), k + m = 11440 → τ.1 468 55 = nI p → ∀ z y, z = y + m + 1 → ∃ τ1, l_X9_keepAct N z 1 (nI k) τ = u_X9_keepAct_h1_2 N (nI 11440) τ1 ∧ (True → q_X9_keepAct N z 1 (nI k) τ) ∧ (∀ j, k ≤ j → j < 11440 → τ1.1 498 (11440 * p + j) = τ.1 469 (j)) ∧ (∀ a j, ¬ (a = 498 ∧ 11440 * p + k ≤ j ∧ j < 11440 * p + 11440) → τ1.1 a j = τ.1 a j) ∧ τ1.2 = τ.2 := by
  intro m
  induction m with
  | zero =>
    intro k τ hk h0 z y hz
    subst hz
    obtain rfl : k = 11440 := by omega
    have c : (11440 : Int32) ≤ nI 11440 := nI_le (a := 11440) (Nat.le_refl _) (by decide)
    rw [show y + 0 + 1 = y + 1 from rfl, l_X9_keepAct, q_X9_keepAct, if_pos c]
    exact ⟨τ, rfl, fun h => fun y => absurd c y, fun j h1 h2 => absurd h1 (by omega), fun _ _ _ => rfl, rfl⟩
  | succ m ih =>
    intro k τ hk h0 z y hz
    subst hz
    have c : ¬ (11440 : Int32) ≤ nI k := nI_ge (b := 11440) (by omega) (by decide)
    have eu : u_X9_keepAct_h1_3 N (nI k) τ = zuI τ 498 (11440 * p + k) (τ.1 469 (k)) := by
      unfold u_X9_keepAct_h1_3
      rw [h0, (show (11440 : Int32) = nI 11440 from rfl), pk_mul, nI_add, nI_clamp (by omega), nI_clamp (by omega)]
    rw [show y + (m + 1) + 1 = (y + m + 1) + 1 by omega, l_X9_keepAct, q_X9_keepAct, if_neg c, eu, nI_1]
    obtain ⟨τ1, i1, i2, i3, i4, i5⟩ := ih (k + 1) (zuI τ 498 (11440 * p + k) (τ.1 469 (k))) (by omega) (by rw [gI_n (by omega)]; exact h0) (y + m + 1) y rfl
    refine ⟨τ1, i1, fun h => fun _ => ⟨vp_in_nI (by omega) (by decide), by rw [h0, (show (11440 : Int32) = nI 11440 from rfl), pk_mul, nI_add]; exact vp_in_nI (by omega) (by decide), i2 h⟩, fun j h1 h2 => ?_, fun a j h => ?_, i5⟩
    · by_cases e : j = k
      · subst e
        rw [i4 _ _ (by omega), gI_h rfl rfl]
      · rw [i3 j (by omega) h2, gI_n (by omega)]
    · rw [i4 _ _ (by omega), gI_n (by omega)]
theorem rw_image {N b : Nat} (hb : b < 2) : ∀ (m k : Nat) (τ : zS), k + m = 11440 → ∀ z y, z = y + m + 1 → ∃ τ1, l_X9_image N z (nI b) (nI k) τ = ((u_X9_image_h0_1 N (nI b) (nI 11440) τ1).1 469 0, u_X9_image_h0_1 N (nI b) (nI 11440) τ1) ∧ (True → q_X9_image N z (nI b) (nI k) τ) ∧ (∀ j, k ≤ j → j < 11440 → τ1.1 499 (11440 * b + j) = τ.1 469 (j)) ∧ (∀ a j, ¬ (a = 499 ∧ 11440 * b + k ≤ j ∧ j < 11440 * b + 11440) → τ1.1 a j = τ.1 a j) ∧ τ1.2 = τ.2 := by
  intro m
  induction m with
  | zero =>
    intro k τ hk z y hz
    subst hz
    obtain rfl : k = 11440 := by omega
    have c : (11440 : Int32) ≤ nI 11440 := nI_le (a := 11440) (Nat.le_refl _) (by decide)
    rw [show y + 0 + 1 = y + 1 from rfl, l_X9_image, q_X9_image, if_pos c]
    exact ⟨τ, rfl, fun h => ⟨fun _ => vp_in_nI hb (by decide), fun y => absurd c y⟩, fun j h1 h2 => absurd h1 (by omega), fun _ _ _ => rfl, rfl⟩
  | succ m ih =>
    intro k τ hk z y hz
    subst hz
    have c : ¬ (11440 : Int32) ≤ nI k := nI_ge (b := 11440) (by omega) (by decide)
    have eu : u_X9_image_h0_2 N (nI b) (nI k) τ = zuI τ 499 (11440 * b + k) (τ.1 469 (k)) := by
      unfold u_X9_image_h0_2
      rw [(show (11440 : Int32) = nI 11440 from rfl), pk_mul, nI_add, nI_clamp (by omega), nI_clamp (by omega)]
    rw [show y + (m + 1) + 1 = (y + m + 1) + 1 by omega, l_X9_image, q_X9_image, if_neg c, eu, nI_1]
    obtain ⟨τ1, i1, i2, i3, i4, i5⟩ := ih (k + 1) (zuI τ 499 (11440 * b + k) (τ.1 469 (k))) (by omega) (y + m + 1) y rfl
    refine ⟨τ1, i1, fun h => ⟨fun y => absurd y c, fun _ => ⟨vp_in_nI (by omega) (by decide), by rw [(show (11440 : Int32) = nI 11440 from rfl), pk_mul, nI_add]; exact vp_in_nI (by omega) (by decide), i2 h⟩⟩, fun j h1 h2 => ?_, fun a j h => ?_, i5⟩
    · by_cases e : j = k
      · subst e
        rw [i4 _ _ (by omega), gI_h rfl rfl]
      · rw [i3 j (by omega) h2, gI_n (by omega)]
    · rw [i4 _ _ (by omega), gI_n (by omega)]
theorem rw_back {N b : Nat} (hb : b < 2) : ∀ (m k : Nat) (τ : zS), k + m = 11440 → ∀ z y, z = y + m + 1 → ∃ τ1, l_X9_back N z (nI b) (nI k) τ = ((u_X9_back_h0_2 N (nI b) (nI 11440) τ1).1 469 0, u_X9_back_h0_2 N (nI b) (nI 11440) τ1) ∧ (True → q_X9_back N z (nI b) (nI k) τ) ∧ (∀ j, k ≤ j → j < 11440 → τ1.1 469 (j) = τ.1 499 (11440 * b + j)) ∧ (∀ a j, ¬ (a = 469 ∧ k ≤ j ∧ j < 11440) → τ1.1 a j = τ.1 a j) ∧ τ1.2 = τ.2 := by
  intro m
  induction m with
  | zero =>
    intro k τ hk z y hz
    subst hz
    obtain rfl : k = 11440 := by omega
    have c : (11440 : Int32) ≤ nI 11440 := nI_le (a := 11440) (Nat.le_refl _) (by decide)
    rw [show y + 0 + 1 = y + 1 from rfl, l_X9_back, q_X9_back, if_pos c]
    exact ⟨τ, rfl, fun h => fun y => absurd c y, fun j h1 h2 => absurd h1 (by omega), fun _ _ _ => rfl, rfl⟩
  | succ m ih =>
    intro k τ hk z y hz
    subst hz
    have c : ¬ (11440 : Int32) ≤ nI k := nI_ge (b := 11440) (by omega) (by decide)
    have eu : u_X9_back_h0_3 N (nI b) (nI k) τ = zuI τ 469 (k) (τ.1 499 (11440 * b + k)) := by
      unfold u_X9_back_h0_3
      rw [(show (11440 : Int32) = nI 11440 from rfl), pk_mul, nI_add, nI_clamp (by omega), nI_clamp (by omega)]
    rw [show y + (m + 1) + 1 = (y + m + 1) + 1 by omega, l_X9_back, q_X9_back, if_neg c, eu, nI_1]
    obtain ⟨τ1, i1, i2, i3, i4, i5⟩ := ih (k + 1) (zuI τ 469 (k) (τ.1 499 (11440 * b + k))) (by omega) (y + m + 1) y rfl
    refine ⟨τ1, i1, fun h => fun _ => ⟨by rw [(show (11440 : Int32) = nI 11440 from rfl), pk_mul, nI_add]; exact vp_in_nI (by omega) (by decide), vp_in_nI (by omega) (by decide), i2 h⟩, fun j h1 h2 => ?_, fun a j h => ?_, i5⟩
    · by_cases e : j = k
      · subst e
        rw [i4 _ _ (by omega), gI_h rfl rfl]
      · rw [i3 j (by omega) h2, gI_n (by omega)]
    · rw [i4 _ _ (by omega), gI_n (by omega)]
theorem rw_zero {N : Nat} : ∀ (m k : Nat) (τ : zS), k + m = 11440 → ∀ z y, z = y + m + 1 → ∃ τ1, l_X9_startAnew N z 0 (nI k) τ = l_X9_startAnew N y 1 0 τ1 ∧ (q_X9_startAnew N y 1 0 τ1 → q_X9_startAnew N z 0 (nI k) τ) ∧ (∀ j, k ≤ j → j < 11440 → τ1.1 469 (j) = 0) ∧ (∀ a j, ¬ (a = 469 ∧ k ≤ j ∧ j < 11440) → τ1.1 a j = τ.1 a j) ∧ τ1.2 = τ.2 := by
  intro m
  induction m with
  | zero =>
    intro k τ hk z y hz
    subst hz
    obtain rfl : k = 11440 := by omega
    have c : (11440 : Int32) ≤ nI 11440 := nI_le (a := 11440) (Nat.le_refl _) (by decide)
    rw [show y + 0 + 1 = y + 1 from rfl, l_X9_startAnew, q_X9_startAnew, if_pos c]
    exact ⟨τ, rfl, fun h => ⟨fun _ => h, fun y => absurd c y⟩, fun j h1 h2 => absurd h1 (by omega), fun _ _ _ => rfl, rfl⟩
  | succ m ih =>
    intro k τ hk z y hz
    subst hz
    have c : ¬ (11440 : Int32) ≤ nI k := nI_ge (b := 11440) (by omega) (by decide)
    have eu : u_X9_startAnew_h0_1 N (nI k) τ = zuI τ 469 (k) (0) := by
      unfold u_X9_startAnew_h0_1
      rw [nI_clamp (by omega)]
    rw [show y + (m + 1) + 1 = (y + m + 1) + 1 by omega, l_X9_startAnew, q_X9_startAnew, if_neg c, eu, nI_1]
    obtain ⟨τ1, i1, i2, i3, i4, i5⟩ := ih (k + 1) (zuI τ 469 (k) (0)) (by omega) (y + m + 1) y rfl
    refine ⟨τ1, i1, fun h => ⟨fun y => absurd y c, fun _ => ⟨vp_in_nI (by omega) (by decide), i2 h⟩⟩, fun j h1 h2 => ?_, fun a j h => ?_, i5⟩
    · by_cases e : j = k
      · subst e
        rw [i4 _ _ (by omega), gI_h rfl rfl]
      · exact i3 j (by omega) h2
    · rw [i4 _ _ (by omega), gI_n (by omega)]
theorem rw_unbox {N : Nat} : ∀ (m k : Nat) (τ : zS), k + m = 2 → ∀ z y, z = y + m + 1 → ∃ τ1, l_X9_startAnew N z 2 (nI k) τ = τ1 ∧ (True → q_X9_startAnew N z 2 (nI k) τ) ∧ (∀ j, k ≤ j → j < 2 → τ1.1 500 (j) = vp_nar .boolean 0) ∧ (∀ a j, ¬ (a = 500 ∧ k ≤ j ∧ j < 2) → τ1.1 a j = τ.1 a j) ∧ τ1.2 = τ.2 := by
  intro m
  induction m with
  | zero =>
    intro k τ hk z y hz
    subst hz
    obtain rfl : k = 2 := by omega
    have c : (2 : Int32) ≤ nI 2 := nI_le (a := 2) (Nat.le_refl _) (by decide)
    rw [show y + 0 + 1 = y + 1 from rfl, l_X9_startAnew, q_X9_startAnew, if_pos c]
    exact ⟨τ, rfl, fun h => fun y => absurd c y, fun j h1 h2 => absurd h1 (by omega), fun _ _ _ => rfl, rfl⟩
  | succ m ih =>
    intro k τ hk z y hz
    subst hz
    have c : ¬ (2 : Int32) ≤ nI k := nI_ge (b := 2) (by omega) (by decide)
    have eu : u_X9_startAnew_h2_1 N (nI k) τ = zuI τ 500 (k) (vp_nar .boolean 0) := by
      unfold u_X9_startAnew_h2_1
      rw [nI_clamp (by omega)]
    rw [show y + (m + 1) + 1 = (y + m + 1) + 1 by omega, l_X9_startAnew, q_X9_startAnew, if_neg c, eu, nI_1]
    obtain ⟨τ1, i1, i2, i3, i4, i5⟩ := ih (k + 1) (zuI τ 500 (k) (vp_nar .boolean 0)) (by omega) (y + m + 1) y rfl
    refine ⟨τ1, i1, fun h => fun _ => ⟨vp_in_nI (by omega) (by decide), i2 h⟩, fun j h1 h2 => ?_, fun a j h => ?_, i5⟩
    · by_cases e : j = k
      · subst e
        rw [i4 _ _ (by omega), gI_h rfl rfl]
      · exact i3 j (by omega) h2
    · rw [i4 _ _ (by omega), gI_n (by omega)]
theorem rw_tsk {N t : Nat} (ht : t ≤ 4) : ∀ (m k : Nat) (τ : zS), k + m = 20 → ∀ z y, z = y + m + 1 → ∃ τ1, l_X9_clearTask N z (nI t) (nI k) τ = u_X9_clearTask_h0_2 N (nI t) (nI 20) τ1 ∧ (True → q_X9_clearTask N z (nI t) (nI k) τ) ∧ (∀ j, k ≤ j → j < 20 → τ1.1 469 (136 + 20 * t + j) = 0) ∧ (∀ a j, ¬ (a = 469 ∧ 136 + 20 * t + k ≤ j ∧ j < 136 + 20 * t + 20) → τ1.1 a j = τ.1 a j) ∧ τ1.2 = τ.2 := by
  intro m
  induction m with
  | zero =>
    intro k τ hk z y hz
    subst hz
    obtain rfl : k = 20 := by omega
    have c : (20 : Int32) ≤ nI 20 := nI_le (a := 20) (Nat.le_refl _) (by decide)
    rw [show y + 0 + 1 = y + 1 from rfl, l_X9_clearTask, q_X9_clearTask, if_pos c]
    exact ⟨τ, rfl, fun h => ⟨fun _ => ⟨by rw [at_5]; exact vp_in_nI (by omega) (by decide), by rw [li_n]; exact vp_in_nI (by omega) (by decide)⟩, fun y => absurd c y⟩, fun j h1 h2 => absurd h1 (by omega), fun _ _ _ => rfl, rfl⟩
  | succ m ih =>
    intro k τ hk z y hz
    subst hz
    have c : ¬ (20 : Int32) ≤ nI k := nI_ge (b := 20) (by omega) (by decide)
    have eu : u_X9_clearTask_h0_3 N (nI t) (nI k) τ = zuI τ 469 (136 + 20 * t + k) (0) := by
      unfold u_X9_clearTask_h0_3
      rw [at_n, nI_clamp (by omega)]
    rw [show y + (m + 1) + 1 = (y + m + 1) + 1 by omega, l_X9_clearTask, q_X9_clearTask, if_neg c, eu, nI_1]
    obtain ⟨τ1, i1, i2, i3, i4, i5⟩ := ih (k + 1) (zuI τ 469 (136 + 20 * t + k) (0)) (by omega) (y + m + 1) y rfl
    refine ⟨τ1, i1, fun h => ⟨fun y => absurd y c, fun _ => ⟨by rw [at_n]; exact vp_in_nI (by omega) (by decide), i2 h⟩⟩, fun j h1 h2 => ?_, fun a j h => ?_, i5⟩
    · by_cases e : j = k
      · subst e
        rw [i4 _ _ (by omega), gI_h rfl rfl]
      · exact i3 j (by omega) h2
    · rw [i4 _ _ (by omega), gI_n (by omega)]
