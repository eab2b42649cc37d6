/-! the tape -/
def byt (v : Int32) (k : Nat) : Nat := (v.toBitVec.toNat / 2 ^ k) % 256
theorem byt_lt {v : Int32} {k : Nat} : byt v k < 256 := Nat.mod_lt _ (by decide)
theorem sgnB_int {b : Nat} (hb : b < 256) : (sgnB b).toInt = if b < 128 then (b : Int) else (b : Int) - 256 := by
  unfold sgnB
  by_cases c : b < 128
  · rw [if_pos c, if_pos c, nI_toInt (by omega)]
  · rw [if_neg c, if_neg c, show (256 : Int32) = nI 256 from rfl, pk_sub_toInt (by omega) (by decide)]
    rfl
theorem byt_c {v s : Int32} {k : Nat} (hs : ((s.toUInt32 &&& Int32.toUInt32 31).toBitVec % 32).toNat = k) : ((Int32.toUInt32 v >>> (Int32.toUInt32 s &&& Int32.toUInt32 31)).toInt32) &&& 255 = nI (byt v k) := by
  rw [pk_and _ 8 (by decide), pk_ushr v s k hs]
  rfl
theorem byt_m {v s : Int32} {k : Nat} (hk : k = 0 ∨ k = 8 ∨ k = 16 ∨ k = 24) (hs : (s.toBitVec.smod 32).toNat = k) : (v >>> s).toInt8.toInt32 = sgnB (byt v k) := by
  apply Int32.toInt_inj.mp
  rw [sgnB_int byt_lt, Int8.toInt_toInt32, Int32.toInt_toInt8, pk_shr v s k hs]
  have hu : v.toBitVec.toNat < 4294967296 := v.toBitVec.isLt
  have hv : v.toInt = if 2 * v.toBitVec.toNat < 4294967296 then (v.toBitVec.toNat : Int) else (v.toBitVec.toNat : Int) - 4294967296 := BitVec.toInt_eq_toNat_cond v.toBitVec
  unfold byt
  rw [hv, Int.shiftRight_eq_div_pow]
  generalize v.toBitVec.toNat = u at hu
  rcases hk with rfl | rfl | rfl | rfl <;> (split <;> split <;> simp only [Int.bmod] <;> split <;> omega)
theorem four_1 {N z t k : Nat} {v s : Int32} {σ : zS} (h0 : ¬ s < 0) (hs : ((s.toUInt32 &&& Int32.toUInt32 31).toBitVec % 32).toNat = k) (h1 : σ.1 0 1 = nI t) (ht : t < 1000) : l_X8_feedFour N (z + 1) v s σ = l_X8_feedFour N z v (s + (-8)) (zuI (zuI σ 1 t (nI (byt v k))) 0 1 (nI (t + 1))) ∧ (q_X8_feedFour N z v (s + (-8)) (zuI (zuI σ 1 t (nI (byt v k))) 0 1 (nI (t + 1))) → q_X8_feedFour N (z + 1) v s σ) := by
  have eu : u_X8_feedFour_h0_2 N v s σ = zuI (zuI σ 1 t (nI (byt v k))) 0 1 (nI (t + 1)) := by
    unfold u_X8_feedFour_h0_2 u_X8_feedFour_h0_1
    rw [byt_c hs, h1, put_i ht (by decide), gI_n (by omega), h1, nI_1]
  rw [l_X8_feedFour, q_X8_feedFour, if_neg h0, eu]
  exact ⟨rfl, fun h _ => ⟨put_p (by decide), h⟩⟩
theorem cl_four {N t : Nat} {v : Int32} {σ : zS} (hN : 10 < N) (h1 : σ.1 0 1 = nI t) (ht : t + 4 ≤ 1000) : p_X8_feedFour v N σ ∧ (s_X8_feedFour v N σ).1 0 1 = nI (t + 4) ∧ (∀ i, i < 4 → (s_X8_feedFour v N σ).1 1 (t + i) = nI (byt v (24 - 8 * i))) ∧ (∀ q j, ¬ (q = 0 ∧ j = 1) → ¬ (q = 1 ∧ t ≤ j ∧ j < t + 4) → (s_X8_feedFour v N σ).1 q j = σ.1 q j) ∧ (s_X8_feedFour v N σ).2 = σ.2 := by
  obtain ⟨z, rfl⟩ : ∃ z, N = z + 1 + 1 + 1 + 1 + 1 := ⟨N - 5, by omega⟩
  obtain ⟨a1, a2⟩ := four_1 (N := z + 1 + 1 + 1 + 1 + 1) (z := z + 1 + 1 + 1 + 1) (k := 24) (v := v) (s := 24) (by decide) (by decide) h1 (by omega)
  obtain ⟨b1, b2⟩ := four_1 (N := z + 1 + 1 + 1 + 1 + 1) (z := z + 1 + 1 + 1) (k := 16) (v := v) (s := 16) (σ := zuI (zuI σ 1 t (nI (byt v 24))) 0 1 (nI (t + 1))) (t := t + 1) (by decide) (by decide) (gI_h rfl rfl) (by omega)
  obtain ⟨c1, c2⟩ := four_1 (N := z + 1 + 1 + 1 + 1 + 1) (z := z + 1 + 1) (k := 8) (v := v) (s := 8) (σ := zuI (zuI (zuI (zuI σ 1 t (nI (byt v 24))) 0 1 (nI (t + 1))) 1 (t + 1) (nI (byt v 16))) 0 1 (nI (t + 1 + 1))) (t := t + 1 + 1) (by decide) (by decide) (gI_h rfl rfl) (by omega)
  obtain ⟨d1, d2⟩ := four_1 (N := z + 1 + 1 + 1 + 1 + 1) (z := z + 1) (k := 0) (v := v) (s := 0) (σ := zuI (zuI (zuI (zuI (zuI (zuI σ 1 t (nI (byt v 24))) 0 1 (nI (t + 1))) 1 (t + 1) (nI (byt v 16))) 0 1 (nI (t + 1 + 1))) 1 (t + 1 + 1) (nI (byt v 8))) 0 1 (nI (t + 1 + 1 + 1))) (t := t + 1 + 1 + 1) (by decide) (by decide) (gI_h rfl rfl) (by omega)
  rw [show (24 : Int32) + (-8) = 16 from rfl] at a1 a2
  rw [show (16 : Int32) + (-8) = 8 from rfl] at b1 b2
  rw [show (8 : Int32) + (-8) = 0 from rfl] at c1 c2
  have n8 : (0 : Int32) + (-8) < 0 := by decide
  have stop : ∀ σ', l_X8_feedFour (z + 1 + 1 + 1 + 1 + 1) (z + 1) v (0 + (-8)) σ' = σ' := fun σ' => by rw [l_X8_feedFour, if_pos n8]
  rw [stop] at d1
  have es : s_X8_feedFour v (z + 1 + 1 + 1 + 1 + 1) σ = zuI (zuI (zuI (zuI (zuI (zuI (zuI (zuI σ 1 t (nI (byt v 24))) 0 1 (nI (t + 1))) 1 (t + 1) (nI (byt v 16))) 0 1 (nI (t + 1 + 1))) 1 (t + 1 + 1) (nI (byt v 8))) 0 1 (nI (t + 1 + 1 + 1))) 1 (t + 1 + 1 + 1) (nI (byt v 0))) 0 1 (nI (t + 1 + 1 + 1 + 1)) := a1.trans (b1.trans (c1.trans d1))
  have pp : p_X8_feedFour v (z + 1 + 1 + 1 + 1 + 1) σ := by
    refine a2 (b2 (c2 (d2 ?_)))
    rw [q_X8_feedFour]
    exact fun y => absurd n8 y
  rw [es]
  refine ⟨pp, gI_h rfl rfl, fun i hi => ?_, fun q j z1 z2 => ?_, rfl⟩
  · rcases (show i = 0 ∨ i = 1 ∨ i = 2 ∨ i = 3 by omega) with rfl | rfl | rfl | rfl
    · rw [gI_n (by omega), gI_n (by omega), gI_n (by omega), gI_n (by omega), gI_n (by omega), gI_n (by omega), gI_n (by omega), gI_h rfl (by omega)]
    · rw [gI_n (by omega), gI_n (by omega), gI_n (by omega), gI_n (by omega), gI_n (by omega), gI_h rfl (by omega)]
    · rw [gI_n (by omega), gI_n (by omega), gI_n (by omega), gI_h rfl (by omega)]
    · rw [gI_n (by omega), gI_h rfl (by omega)]
  · rw [gI_n (by omega), gI_n (by omega), gI_n (by omega), gI_n (by omega), gI_n (by omega), gI_n (by omega), gI_n (by omega), gI_n (by omega)]
def fArg (x1 x2 x3 x4 x5 : Int32) (k : Nat) : Int32 := if k < 4 then x1 else if k < 8 then x2 else if k < 12 then x3 else if k < 16 then x4 else x5
theorem cl_feed {N t : Nat} {x1 x2 x3 x4 x5 : Int32} {σ : zS} (hN : 10 < N) (h1 : σ.1 0 1 = nI t) (ht : t + 20 ≤ 1000) : (p_X8_feedFour x1 N σ ∧ (p_X8_feedFour x2 N (u_X8_feed_1 x1 x2 x3 x4 x5 N σ) ∧ (p_X8_feedFour x3 N (u_X8_feed_2 x1 x2 x3 x4 x5 N σ) ∧ (p_X8_feedFour x4 N (u_X8_feed_3 x1 x2 x3 x4 x5 N σ) ∧ p_X8_feedFour x5 N (u_X8_feed_4 x1 x2 x3 x4 x5 N σ))))) ∧ (u_X8_feed_5 x1 x2 x3 x4 x5 N σ).1 0 1 = nI (t + 20) ∧ (∀ i, i < 20 → (u_X8_feed_5 x1 x2 x3 x4 x5 N σ).1 1 (t + i) = nI (byt (fArg x1 x2 x3 x4 x5 i) (24 - 8 * (i % 4)))) ∧ (∀ q j, ¬ (q = 0 ∧ j = 1) → ¬ (q = 1 ∧ t ≤ j ∧ j < t + 20) → (u_X8_feed_5 x1 x2 x3 x4 x5 N σ).1 q j = σ.1 q j) ∧ (u_X8_feed_5 x1 x2 x3 x4 x5 N σ).2 = σ.2 := by
  obtain ⟨a1, a2, a3, a4, a5⟩ := cl_four (N := N) (v := x1) (σ := σ) hN h1 (by omega)
  obtain ⟨b1, b2, b3, b4, b5⟩ := cl_four (N := N) (v := x2) (σ := s_X8_feedFour x1 N σ) hN a2 (by omega)
  obtain ⟨c1, c2, c3, c4, c5⟩ := cl_four (N := N) (v := x3) (σ := s_X8_feedFour x2 N (s_X8_feedFour x1 N σ)) hN b2 (by omega)
  obtain ⟨d1, d2, d3, d4, d5⟩ := cl_four (N := N) (v := x4) (σ := s_X8_feedFour x3 N (s_X8_feedFour x2 N (s_X8_feedFour x1 N σ))) hN c2 (by omega)
  obtain ⟨e1, e2, e3, e4, e5⟩ := cl_four (N := N) (v := x5) (σ := s_X8_feedFour x4 N (s_X8_feedFour x3 N (s_X8_feedFour x2 N (s_X8_feedFour x1 N σ)))) hN d2 (by omega)
  unfold u_X8_feed_5 u_X8_feed_4 u_X8_feed_3 u_X8_feed_2 u_X8_feed_1
  refine ⟨⟨a1, b1, c1, d1, e1⟩, e2, fun i hi => ?_, fun q j z1 z2 => ?_, e5.trans (d5.trans (c5.trans (b5.trans a5)))⟩
  · unfold fArg
    by_cases g1 : i < 4
    · rw [if_pos g1, e4 _ _ (by omega) (by omega), d4 _ _ (by omega) (by omega), c4 _ _ (by omega) (by omega), b4 _ _ (by omega) (by omega), a3 i g1, Nat.mod_eq_of_lt g1]
    · rw [if_neg g1]
      by_cases g2 : i < 8
      · rw [if_pos g2, e4 _ _ (by omega) (by omega), d4 _ _ (by omega) (by omega), c4 _ _ (by omega) (by omega), show t + i = t + 4 + (i - 4) by omega, b3 (i - 4) (by omega), show i % 4 = i - 4 by omega]
      · rw [if_neg g2]
        by_cases g3 : i < 12
        · rw [if_pos g3, e4 _ _ (by omega) (by omega), d4 _ _ (by omega) (by omega), show t + i = t + 4 + 4 + (i - 8) by omega, c3 (i - 8) (by omega), show i % 4 = i - 8 by omega]
        · rw [if_neg g3]
          by_cases g4 : i < 16
          · rw [if_pos g4, e4 _ _ (by omega) (by omega), show t + i = t + 4 + 4 + 4 + (i - 12) by omega, d3 (i - 12) (by omega), show i % 4 = i - 12 by omega]
          · rw [if_neg g4, show t + i = t + 4 + 4 + 4 + 4 + (i - 16) by omega, e3 (i - 16) (by omega), show i % 4 = i - 16 by omega]
  · rw [e4 _ _ z1 (by omega), d4 _ _ z1 (by omega), c4 _ _ z1 (by omega), b4 _ _ z1 (by omega), a4 _ _ z1 (by omega)]
theorem shf_ok {k : Nat} (hk : k < 20) : ((((24 : Int32) - (8 * (nI k &&& 3))) &&& 31).toBitVec.smod 32).toNat = 24 - 8 * (k % 4) := by
  rw [pk_andN (by omega) (m := 3) 2 (by decide)]
  have h4 : k % 2 ^ 2 < 4 := Nat.mod_lt _ (by decide)
  rw [show k % 4 = k % 2 ^ 2 from rfl]
  generalize k % 2 ^ 2 = j at h4
  rcases (show j = 0 ∨ j = 1 ∨ j = 2 ∨ j = 3 by omega) with rfl | rfl | rfl | rfl <;> decide
theorem rf_feed {N t : Nat} {x1 x2 x3 x4 x5 : Int32} (ht : t + 20 ≤ 1000) : ∀ (m k : Nat) (τ : zS), k + m = 20 → τ.1 468 18 = nI t → ∀ z, m < z → q_X9_feed N z x1 x2 x3 x4 x5 (nI k) τ ∧ (l_X9_feed N z x1 x2 x3 x4 x5 (nI k) τ).1 = nI (t + 20) ∧ (l_X9_feed N z x1 x2 x3 x4 x5 (nI k) τ).2.1 468 18 = nI (t + 20) ∧ (∀ i, k ≤ i → i < 20 → (l_X9_feed N z x1 x2 x3 x4 x5 (nI k) τ).2.1 485 (t + i) = sgnB (byt (fArg x1 x2 x3 x4 x5 i) (24 - 8 * (i % 4)))) ∧ (∀ q j, ¬ (q = 468 ∧ j = 18) → ¬ (q = 485 ∧ t + k ≤ j ∧ j < t + 20) → (l_X9_feed N z x1 x2 x3 x4 x5 (nI k) τ).2.1 q j = τ.1 q j) ∧ (l_X9_feed N z x1 x2 x3 x4 x5 (nI k) τ).2.2 = τ.2 := by
  intro m
  induction m with
  | zero =>
    intro k τ hk h18 z hz
    obtain ⟨z, rfl⟩ : ∃ y, z = y + 1 := ⟨z - 1, by omega⟩
    have c : (20 : Int32) ≤ nI k := nI_le (a := 20) (by omega) (by omega)
    have eu : u_X9_feed_h0_1 N x1 x2 x3 x4 x5 (nI k) τ = zuI τ 468 18 (nI (t + 20)) := by
      unfold u_X9_feed_h0_1
      rw [h18, (show (20 : Int32) = nI 20 from rfl), nI_add]
    rw [q_X9_feed, l_X9_feed, if_pos c, eu]
    have g : (zuI τ 468 18 (nI (t + 20))).1 468 18 = nI (t + 20) := gI_h rfl rfl
    exact ⟨fun y => absurd c y, g, g, fun i h1 h2 => absurd h1 (by omega), fun q j z1 _ => gI_n z1, rfl⟩
  | succ m ih =>
    intro k τ hk h18 z hz
    obtain ⟨z, rfl⟩ : ∃ y, z = y + 1 := ⟨z - 1, by omega⟩
    have c : ¬ (20 : Int32) ≤ nI k := nI_ge (b := 20) (by omega) (by decide)
    have ei : (τ.1 468 18) + nI k = nI (t + k) := by rw [h18, nI_add]
    have vi : vp_in ((τ.1 468 18) + nI k) 1000 := by rw [ei]; exact vp_in_nI (by omega) (by decide)
    have val : ∀ v : Int32, vp_nar .byte ((v >>> ((24 - (8 * (nI k &&& 3))) &&& 31)).toInt8.toInt32) = sgnB (byt v (24 - 8 * (k % 4))) := fun v => by
      rw [pk_vb]
      have h4 : k % 4 < 4 := Nat.mod_lt _ (by decide)
      exact byt_m (by omega) (shf_ok (by omega))
    obtain ⟨i1, i2, i3, i4, i5, i6⟩ := ih (k + 1) (zuI τ 485 (t + k) (sgnB (byt (fArg x1 x2 x3 x4 x5 k) (24 - 8 * (k % 4))))) (by omega) (by rw [gI_n (by omega)]; exact h18) z (by omega)
    have res : ∀ τ', τ' = zuI τ 485 (t + k) (sgnB (byt (fArg x1 x2 x3 x4 x5 k) (24 - 8 * (k % 4)))) → q_X9_feed N z x1 x2 x3 x4 x5 (nI (k + 1)) τ' ∧ (l_X9_feed N z x1 x2 x3 x4 x5 (nI (k + 1)) τ').1 = nI (t + 20) ∧ (l_X9_feed N z x1 x2 x3 x4 x5 (nI (k + 1)) τ').2.1 468 18 = nI (t + 20) ∧ (∀ i, k ≤ i → i < 20 → (l_X9_feed N z x1 x2 x3 x4 x5 (nI (k + 1)) τ').2.1 485 (t + i) = sgnB (byt (fArg x1 x2 x3 x4 x5 i) (24 - 8 * (i % 4)))) ∧ (∀ q j, ¬ (q = 468 ∧ j = 18) → ¬ (q = 485 ∧ t + k ≤ j ∧ j < t + 20) → (l_X9_feed N z x1 x2 x3 x4 x5 (nI (k + 1)) τ').2.1 q j = τ.1 q j) ∧ (l_X9_feed N z x1 x2 x3 x4 x5 (nI (k + 1)) τ').2.2 = τ.2 := fun τ' e => by
      subst e
      refine ⟨i1, i2, i3, fun i h1 h2 => ?_, fun q j z1 z2 => ?_, i6⟩
      · by_cases ei : i = k
        · subst ei
          rw [i5 _ _ (by omega) (by omega), gI_h rfl rfl]
        · exact i4 i (by omega) h2
      · rw [i5 _ _ z1 (by omega), gI_n (by omega)]
    have b4 : ((4 : Int32) ≤ nI k ↔ 4 ≤ k) := nI_leI (a := 4) (by decide) (by omega)
    have b8 : ((8 : Int32) ≤ nI k ↔ 8 ≤ k) := nI_leI (a := 8) (by decide) (by omega)
    have b12 : ((12 : Int32) ≤ nI k ↔ 12 ≤ k) := nI_leI (a := 12) (by decide) (by omega)
    have b16 : ((16 : Int32) ≤ nI k ↔ 16 ≤ k) := nI_leI (a := 16) (by decide) (by omega)
    rw [q_X9_feed, l_X9_feed, if_neg c, nI_1]
    by_cases g1 : k < 4
    · have n4 : ¬ (4 : Int32) ≤ nI k := fun y => by have := b4.mp y; omega
      have eu : u_X9_feed_h0_6 N x1 x2 x3 x4 x5 (nI k) τ = zuI τ 485 (t + k) (sgnB (byt (fArg x1 x2 x3 x4 x5 k) (24 - 8 * (k % 4)))) := by
        unfold u_X9_feed_h0_6 fArg
        rw [ei, nI_clamp (by omega), val, if_pos g1]
      obtain ⟨r1, r2⟩ := res _ eu
      rw [if_neg n4]
      exact ⟨fun _ => ⟨fun y => absurd y n4, fun _ => ⟨vi, r1⟩⟩, r2⟩
    · have y4 := b4.mpr (by omega)
      rw [if_pos y4]
      by_cases g2 : k < 8
      · have n8 : ¬ (8 : Int32) ≤ nI k := fun y => by have := b8.mp y; omega
        have eu : u_X9_feed_h0_5 N x1 x2 x3 x4 x5 (nI k) τ = zuI τ 485 (t + k) (sgnB (byt (fArg x1 x2 x3 x4 x5 k) (24 - 8 * (k % 4)))) := by
          unfold u_X9_feed_h0_5 fArg
          rw [ei, nI_clamp (by omega), val, if_neg g1, if_pos g2]
        obtain ⟨r1, r2⟩ := res _ eu
        rw [if_neg n8]
        exact ⟨fun _ => ⟨fun _ => ⟨fun y => absurd y n8, fun _ => ⟨vi, r1⟩⟩, fun y => absurd y4 y⟩, r2⟩
      · have y8 := b8.mpr (by omega)
        rw [if_pos y8]
        by_cases g3 : k < 12
        · have n12 : ¬ (12 : Int32) ≤ nI k := fun y => by have := b12.mp y; omega
          have eu : u_X9_feed_h0_4 N x1 x2 x3 x4 x5 (nI k) τ = zuI τ 485 (t + k) (sgnB (byt (fArg x1 x2 x3 x4 x5 k) (24 - 8 * (k % 4)))) := by
            unfold u_X9_feed_h0_4 fArg
            rw [ei, nI_clamp (by omega), val, if_neg g1, if_neg g2, if_pos g3]
          obtain ⟨r1, r2⟩ := res _ eu
          rw [if_neg n12]
          exact ⟨fun _ => ⟨fun _ => ⟨fun _ => ⟨fun y => absurd y n12, fun _ => ⟨vi, r1⟩⟩, fun y => absurd y8 y⟩, fun y => absurd y4 y⟩, r2⟩
        · have y12 := b12.mpr (by omega)
          rw [if_pos y12]
          by_cases g4 : k < 16
          · have n16 : ¬ (16 : Int32) ≤ nI k := fun y => by have := b16.mp y; omega
            have eu : u_X9_feed_h0_3 N x1 x2 x3 x4 x5 (nI k) τ = zuI τ 485 (t + k) (sgnB (byt (fArg x1 x2 x3 x4 x5 k) (24 - 8 * (k % 4)))) := by
              unfold u_X9_feed_h0_3 fArg
              rw [ei, nI_clamp (by omega), val, if_neg g1, if_neg g2, if_neg g3, if_pos g4]
            obtain ⟨r1, r2⟩ := res _ eu
            rw [if_neg n16]
            exact ⟨fun _ => ⟨fun _ => ⟨fun _ => ⟨fun _ => ⟨fun y => absurd y n16, fun _ => ⟨vi, r1⟩⟩, fun y => absurd y12 y⟩, fun y => absurd y8 y⟩, fun y => absurd y4 y⟩, r2⟩
          · have y16 := b16.mpr (by omega)
            rw [if_pos y16]
            have eu : u_X9_feed_h0_2 N x1 x2 x3 x4 x5 (nI k) τ = zuI τ 485 (t + k) (sgnB (byt (fArg x1 x2 x3 x4 x5 k) (24 - 8 * (k % 4)))) := by
              unfold u_X9_feed_h0_2 fArg
              rw [ei, nI_clamp (by omega), val, if_neg g1, if_neg g2, if_neg g3, if_neg g4]
            obtain ⟨r1, r2⟩ := res _ eu
            exact ⟨fun _ => ⟨fun _ => ⟨fun _ => ⟨fun _ => ⟨fun _ => ⟨vi, r1⟩, fun y => absurd y16 y⟩, fun y => absurd y12 y⟩, fun y => absurd y8 y⟩, fun y => absurd y4 y⟩, r2⟩
section IS
variable {q1 q2 B W n L F U U1 r p l N : Nat} {K : aK} {H tf rg : Nat → Nat} {gv : Nat → Nat → Int32} {σ σ1 σ2 τ τ1 τ2 : zS} {x1 x2 x3 x4 x5 : Int32}
/-- the tape alone has changed -/
theorem IV.tap (h : IV q1 q2 B W n K L F H tf gv p l rg U σ τ) (hs : ∀ q j, ¬ (q = 0 ∧ j = 1) → ¬ q = 1 → σ1.1 q j = σ.1 q j) (hr : σ1.2 = σ.2) (ht : ∀ q j, ¬ (q = 468 ∧ j = 18) → ¬ q = 485 → τ1.1 q j = τ.1 q j) (hp : TPE σ1 τ1) : IV q1 q2 B W n K L F H tf gv p l rg U σ1 τ1 := by
  have hq := h.pr.2.2
  obtain ⟨a1, a2, a3, a4, a5, a6, a7, a8, a9, a10, a11, a12⟩ := h
  refine ⟨a1, by rw [hr]; exact a2, by rw [hr]; exact a3, (ht _ _ (by omega) (by omega)).trans a4, a5.eq (fun j => hs _ _ (by omega) (by omega)) (fun q j z1 z2 => ht _ _ (by omega) (by omega)), a6.eq2 (ht _ _ (by omega) (by omega)) (fun q j z1 z2 => hs _ _ (by omega) (by omega)) (fun q j z1 z2 => ht _ _ (by omega) (by omega)), ?_, fun b hb => ⟨?_, fun z => ?_⟩, by unfold CL; rw [hr]; exact a9, hp, ⟨?_, ?_⟩, fun i hi => (ht _ _ (by omega) (by omega)).trans (a12 i hi)⟩
  · obtain ⟨h1, h2, h3, h4, h5, h6, h7, h8, h9, h10, h11, h12⟩ := a7
    have sg : ∀ k τ2, k < 13 → RW q1 B W n K L F H tf gv U (rg k) σ τ2 → RW q1 B W n K L F H tf gv U (rg k) σ1 τ2 := fun k τ2 hk g => by
      obtain ⟨c, c1, c2⟩ := h6 k hk
      exact g.sig (fun q j z => hs _ _ (by omega) (by omega)) (fun q j z1 z2 => by rw [hr])
    have mv : ∀ k o, k < 13 → RW q1 B W n K L F H tf gv U (rg k) σ (tw τ 498 o) → RW q1 B W n K L F H tf gv U (rg k) σ1 (tw τ1 498 o) := fun k o hk g => by
      refine (sg k _ hk g).tau ?_ (fun q j z => ?_) (fun j hj => ?_)
      · rw [tw_o (by decide), tw_o (by decide)]; exact ht _ _ (by omega) (by omega)
      · rw [tw_o (by omega), tw_o (by omega)]; exact ht _ _ (by omega) (by omega)
      · rw [tw_h, tw_h]; exact ht _ _ (by omega) (by omega)
    exact ⟨h1, (hs _ _ (by omega) (by omega)).trans h2, (hs _ _ (by omega) (by omega)).trans h3, (ht _ _ (by omega) (by omega)).trans h4, (ht _ _ (by omega) (by omega)).trans h5, h6, h7, fun i hi => by rw [hr]; exact h8 i hi, fun i hi v hv => by rw [hr]; exact h9 i hi v hv, (sg p _ (by omega) h10).tau (ht _ _ (by omega) (by omega)) (fun q j z => ht _ _ (by omega) (by omega)) (fun j hj => ht _ _ (by omega) (by omega)), fun k hk => mv k _ (by omega) (h11 k hk), fun k k1 k2 => mv k _ (by omega) (h12 k k1 k2)⟩
  · rw [hs _ _ (by omega) (by omega), ht _ _ (by omega) (by omega)]
    exact (a8 b hb).1
  · rw [hs _ _ (by omega) (by omega)] at z
    refine (((a8 b hb).2 z).sig (fun q j z => hs _ _ (by omega) (by omega)) (fun q j z1 z2 => by rw [hr])).tau ?_ (fun q j z => ?_) (fun j hj => ?_)
    · rw [tw_o (by decide), tw_o (by decide)]; exact ht _ _ (by omega) (by omega)
    · rw [tw_o (by omega), tw_o (by omega)]; exact ht _ _ (by omega) (by omega)
    · rw [tw_h, tw_h]; exact ht _ _ (by omega) (by omega)
  · rw [hs _ _ (by omega) (by omega), ht _ _ (by omega) (by omega)]
    exact a11.1
  · rw [hs _ _ (by omega) (by omega), ht _ _ (by omega) (by omega)]
    exact a11.2
theorem pr_feed (h : Inv U σ τ) (hN : 200000 < N) : PR2 U (p_X8_feed x1 x2 x3 x4 x5 N σ) (p_X9_feed x1 x2 x3 x4 x5 N τ) (r_X8_feed x1 x2 x3 x4 x5 N σ) (r_X9_feed x1 x2 x3 x4 x5 N τ) σ τ := by
  have hI := h
  obtain ⟨q1, q2, B, W, n, K, L, F, H, tf, gv, p, l, rg, h⟩ := h
  obtain ⟨t, t1, t2, t3, t4⟩ := h.2.2.2.2.2.2.2.2.2.1
  have e20 : (τ.1 468 18) + 20 = nI (t + 20) := by rw [t3, (show (20 : Int32) = nI 20 from rfl), nI_add]
  by_cases c : t ≤ 980
  · have c1 : σ.1 0 1 ≤ 980 := by rw [t2]; exact nI_le (b := 980) c (by decide)
    have c2 : (τ.1 468 18) + 20 ≤ 1000 := by rw [e20]; exact nI_le (b := 1000) (by omega) (by decide)
    obtain ⟨a1, a2, a3, a4, a5⟩ := cl_feed (N := N) (x1 := x1) (x2 := x2) (x3 := x3) (x4 := x4) (x5 := x5) (by omega) t2 (by omega)
    obtain ⟨b1, b2, b3, b4, b5, b6⟩ := rf_feed (N := N) (x1 := x1) (x2 := x2) (x3 := x3) (x4 := x4) (x5 := x5) (show t + 20 ≤ 1000 by omega) 20 0 τ rfl t3 N (by omega)
    have ec : r_X8_feed x1 x2 x3 x4 x5 N σ = ((u_X8_feed_5 x1 x2 x3 x4 x5 N σ).1 0 1, u_X8_feed_5 x1 x2 x3 x4 x5 N σ) := if_pos c1
    have er : r_X9_feed x1 x2 x3 x4 x5 N τ = l_X9_feed N N x1 x2 x3 x4 x5 (nI 0) τ := if_pos c2
    unfold PR2
    rw [ec, er]
    refine ⟨fun _ => a1, fun _ => b1, by rw [b2]; exact a2, ⟨q1, q2, B, W, n, K, L, F, H, tf, gv, p, l, rg, h.tap (fun q j z1 z2 => a4 q j z1 (by omega)) a5 (fun q j z1 z2 => b5 q j z1 (by omega)) ⟨t + 20, by omega, a2, b3, fun i hi => ?_⟩⟩, fun q hq => ⟨funext fun j => a4 q j (by omega) (by omega), by rw [a5]⟩, fun q hq => ⟨funext fun j => b5 q j (by omega) (by omega), by rw [b6]⟩⟩
    by_cases ci : i < t
    · obtain ⟨b, b1', b2', b3'⟩ := t4 i ci
      exact ⟨b, b1', (a4 _ _ (by omega) (by omega)).trans b2', (b5 _ _ (by omega) (by omega)).trans b3'⟩
    · refine ⟨byt (fArg x1 x2 x3 x4 x5 (i - t)) (24 - 8 * ((i - t) % 4)), byt_lt, ?_, ?_⟩
      · have := a3 (i - t) (by omega)
        rw [show t + (i - t) = i by omega] at this
        exact this
      · have := b4 (i - t) (by omega) (by omega)
        rw [show t + (i - t) = i by omega] at this
        exact this
  · have c1 : ¬ σ.1 0 1 ≤ 980 := by rw [t2]; exact nI_ge (a := 980) (by omega) (by omega)
    have c2 : ¬ (τ.1 468 18) + 20 ≤ 1000 := by rw [e20]; exact nI_ge (a := 1000) (by omega) (by omega)
    exact pr_same hI (Nat.le_refl _) (fun y => absurd y c1) (fun y => absurd y c2) (x := -1) (y := -1) (if_neg c1) (if_neg c2) rfl
theorem pr_end (h : Inv U σ τ) : PR2 U True True (r_X8_end x1 σ) (r_X9_end x1 τ) σ τ := by
  have hI := h
  obtain ⟨q1, q2, B, W, n, K, L, F, H, tf, gv, p, l, rg, h⟩ := h
  obtain ⟨t, t1, t2, t3, t4⟩ := h.2.2.2.2.2.2.2.2.2.1
  unfold r_X8_end r_X9_end
  rw [t2, t3]
  by_cases c0 : x1 < 0
  · rw [if_pos c0, if_pos c0]
    exact pr_same hI (Nat.le_refl _) trivial trivial rfl rfl rfl
  · rw [if_neg c0, if_neg c0]
    by_cases c1 : x1 ≤ nI t
    · rw [if_pos c1, if_pos c1]
      have hk : ∃ k, k ≤ t ∧ x1 = nI k := by
        rcases pk_ix x1 (n := t + 1) (by omega) with y | y | ⟨j, hj, rfl⟩
        · exact absurd y c0
        · exact absurd (Int32.le_trans y c1) (nI_ge (by omega) (by omega))
        · exact ⟨j, by omega, rfl⟩
      obtain ⟨k, k1, rfl⟩ := hk
      refine ⟨trivial, trivial, rfl, ⟨q1, q2, B, W, n, K, L, F, H, tf, gv, p, l, rg, h.tap (σ1 := u_X8_end_1 (nI k) σ) (τ1 := u_X9_end_1 (nI k) τ) (fun q j z1 z2 => gI_n z1) rfl (fun q j z1 z2 => gI_n z1) ⟨k, by omega, gI_h rfl rfl, gI_h rfl rfl, fun i hi => ?_⟩⟩, fun q hq => ⟨funext fun j => gI_n (by omega), rfl⟩, fun q hq => ⟨funext fun j => gI_n (by omega), rfl⟩⟩
      obtain ⟨b, b1, b2, b3⟩ := t4 i (by omega)
      exact ⟨b, b1, (gI_n (by omega)).trans b2, (gI_n (by omega)).trans b3⟩
    · rw [if_neg c1, if_neg c1]
      exact pr_same hI (Nat.le_refl _) trivial trivial rfl rfl rfl
end IS
