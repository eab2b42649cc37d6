/-! the class's formulas of a call -/
section IS
variable {N : Nat} {σ σ1 : zS} {P : Nat → Int32 → Int32 → zS → Prop} {G : Nat → Int32 → Int32 → zS → Int32 × zS} {x2 : Int32}
theorem ca_le {a i : Nat} (ha : a ≤ 4) (hi : i ≤ 9) : nI a ≤ nI i ↔ a ≤ i := by
  constructor
  · intro y
    apply Classical.byContradiction
    intro w
    exact nI_ge (a := i) (b := a) (by omega) (by omega) y
  · intro y
    exact nI_le y (by omega)
theorem ca_end {z a : Nat} (ha : a ≤ 4) (hs : p_X3_readSign 41 N σ) : q_X3_readArguments P G N (z + 1) (nI a) x2 (nI a) σ ∧ l_X3_readArguments G N (z + 1) (nI a) x2 (nI a) σ = r_X3_readSign 41 N σ := by
  have c := (ca_le (i := a) ha (by omega)).mpr (Nat.le_refl _)
  refine ⟨?_, ?_⟩
  · rw [q_X3_readArguments]
    exact ⟨fun _ => hs, fun y => absurd c y⟩
  · rw [l_X3_readArguments, if_pos c]
    rfl
theorem ca_go {z a i : Nat} (ha : a ≤ 4) (hi : i < a) : (σ.1 3 2 = 41 → q_X3_readArguments P G N (z + 1) (nI a) x2 (nI i) σ ∧ l_X3_readArguments G N (z + 1) (nI a) x2 (nI i) σ = (0, zuI (zuI σ 2 2 5) 2 3 (σ.1 3 3))) ∧ (¬ σ.1 3 2 = 41 → P 0 x2 0 σ → (((G 0 x2 0 σ).1 = 0 → q_X3_readArguments P G N (z + 1) (nI a) x2 (nI i) σ ∧ l_X3_readArguments G N (z + 1) (nI a) x2 (nI i) σ = (0, (G 0 x2 0 σ).2)) ∧ (¬ (G 0 x2 0 σ).1 = 0 → (i + 1 = a → ((G 0 x2 0 σ).2.1 3 2 = 44 → q_X3_readArguments P G N (z + 1) (nI a) x2 (nI i) σ ∧ l_X3_readArguments G N (z + 1) (nI a) x2 (nI i) σ = (0, zuI (zuI (G 0 x2 0 σ).2 2 2 5) 2 3 ((G 0 x2 0 σ).2.1 3 3))) ∧ (¬ (G 0 x2 0 σ).2.1 3 2 = 44 → (q_X3_readArguments P G N z (nI a) x2 (nI (i + 1)) (G 0 x2 0 σ).2 → q_X3_readArguments P G N (z + 1) (nI a) x2 (nI i) σ) ∧ l_X3_readArguments G N (z + 1) (nI a) x2 (nI i) σ = l_X3_readArguments G N z (nI a) x2 (nI (i + 1)) (G 0 x2 0 σ).2)) ∧ (i + 1 < a → ((G 0 x2 0 σ).2.1 3 2 = 41 → q_X3_readArguments P G N (z + 1) (nI a) x2 (nI i) σ ∧ l_X3_readArguments G N (z + 1) (nI a) x2 (nI i) σ = (0, zuI (zuI (G 0 x2 0 σ).2 2 2 5) 2 3 ((G 0 x2 0 σ).2.1 3 3))) ∧ (¬ (G 0 x2 0 σ).2.1 3 2 = 41 → p_X3_readSign 44 N (G 0 x2 0 σ).2 → ((r_X3_readSign 44 N (G 0 x2 0 σ).2).1 = 0 → q_X3_readArguments P G N (z + 1) (nI a) x2 (nI i) σ ∧ l_X3_readArguments G N (z + 1) (nI a) x2 (nI i) σ = (0, (r_X3_readSign 44 N (G 0 x2 0 σ).2).2)) ∧ (¬ (r_X3_readSign 44 N (G 0 x2 0 σ).2).1 = 0 → (q_X3_readArguments P G N z (nI a) x2 (nI (i + 1)) (r_X3_readSign 44 N (G 0 x2 0 σ).2).2 → q_X3_readArguments P G N (z + 1) (nI a) x2 (nI i) σ) ∧ l_X3_readArguments G N (z + 1) (nI a) x2 (nI i) σ = l_X3_readArguments G N z (nI a) x2 (nI (i + 1)) (r_X3_readSign 44 N (G 0 x2 0 σ).2).2)))))) := by
  have c : ¬ nI a ≤ nI i := fun y => absurd ((ca_le (i := i) ha (by omega)).mp y) (by omega)
  have e2 : u_X3_readArguments_h0_2 G N (nI a) x2 (nI i) σ = (G 0 x2 0 σ).2 := rfl
  refine ⟨fun h => ⟨?_, ?_⟩, fun h hP => ⟨fun g0 => ⟨?_, ?_⟩, fun g1 => ⟨fun ci => ?_, fun ci => ?_⟩⟩⟩
  · rw [q_X3_readArguments]
    exact ⟨fun y => absurd y c, fun _ y => absurd h y⟩
  · rw [l_X3_readArguments, if_neg c, if_pos h]
    rfl
  · rw [q_X3_readArguments]
    exact ⟨fun y => absurd y c, fun _ _ => ⟨hP, fun y => absurd g0 y⟩⟩
  · rw [l_X3_readArguments, if_neg c, if_neg h, if_pos g0]
    rfl
  · have c1 : nI a ≤ nI (i + 1) := (ca_le (i := i + 1) ha (by omega)).mpr (by omega)
    refine ⟨fun k => ⟨?_, ?_⟩, fun k => ⟨fun y => ?_, ?_⟩⟩
    · rw [q_X3_readArguments, nI_1, e2]
      exact ⟨fun y => absurd y c, fun _ _ => ⟨hP, fun _ => ⟨fun _ y => absurd k y, fun y => absurd c1 y⟩⟩⟩
    · rw [l_X3_readArguments, if_neg c, if_neg h, if_neg g1, nI_1, if_pos c1, e2, if_pos k]
      rfl
    · rw [q_X3_readArguments, nI_1, e2]
      exact ⟨fun y => absurd y c, fun _ _ => ⟨hP, fun _ => ⟨fun _ _ => ⟨fun _ => y, fun y => absurd c1 y⟩, fun y => absurd c1 y⟩⟩⟩
    · rw [l_X3_readArguments, if_neg c, if_neg h, if_neg g1, nI_1, if_pos c1, e2, if_neg k, if_pos c1]
  · have c1 : ¬ nI a ≤ nI (i + 1) := fun y => absurd ((ca_le (i := i + 1) ha (by omega)).mp y) (by omega)
    have e5 : u_X3_readArguments_h0_5 G N (nI a) x2 (nI i) σ = (r_X3_readSign 44 N (G 0 x2 0 σ).2).2 := rfl
    refine ⟨fun k => ⟨?_, ?_⟩, fun k hs => ⟨fun r0 => ⟨?_, ?_⟩, fun r1 => ⟨fun y => ?_, ?_⟩⟩⟩
    · rw [q_X3_readArguments, nI_1, e2]
      exact ⟨fun y => absurd y c, fun _ _ => ⟨hP, fun _ => ⟨fun y => absurd y c1, fun _ y => absurd k y⟩⟩⟩
    · rw [l_X3_readArguments, if_neg c, if_neg h, if_neg g1, nI_1, if_neg c1, e2, if_pos k]
      rfl
    · rw [q_X3_readArguments, nI_1, e2]
      exact ⟨fun y => absurd y c, fun _ _ => ⟨hP, fun _ => ⟨fun y => absurd y c1, fun _ _ => ⟨fun y => absurd y c1, fun _ => ⟨hs, fun y => absurd r0 y⟩⟩⟩⟩⟩
    · rw [l_X3_readArguments, if_neg c, if_neg h, if_neg g1, nI_1, if_neg c1, e2, if_neg k, if_neg c1, if_pos r0, e5]
    · rw [q_X3_readArguments, nI_1, e2, e5]
      exact ⟨fun y => absurd y c, fun _ _ => ⟨hP, fun _ => ⟨fun y => absurd y c1, fun _ _ => ⟨fun y => absurd y c1, fun _ => ⟨hs, fun _ => y⟩⟩⟩⟩⟩
    · rw [l_X3_readArguments, if_neg c, if_neg h, if_neg g1, nI_1, if_neg c1, e2, if_neg k, if_neg c1, if_neg r1, e5]
/-- a call: what readNamed asks -/
theorem cn_callp {q u f a : Nat} {x1 : Int32} (hn : p_X6_next N σ) (hk : (s_X6_next N σ).1 3 2 = 40) (hf : f < 6) (hpf : p_X3_functionNamed (σ.1 3 3) (σ.1 3 4) N (s_X6_next N σ)) (c : f_X3_functionNamed (σ.1 3 3) (σ.1 3 4) N (s_X6_next N σ) = nI f ∨ f_X3_functionNamed (σ.1 3 3) (σ.1 3 4) N (s_X6_next N σ) = -1) (hl : zlay q = (2, 16)) (hx : x2 = 0 → f_X3_functionNamed (σ.1 3 3) (σ.1 3 4) N (s_X6_next N σ) = nI f → (s_X6_next N σ).2 2 1 = q + 1 ∧ (s_X6_next N σ).1 q 8 = nI u ∧ p_X6_next N (zuI (s_X6_next N σ) q 8 (nI (u + 1))) ∧ (s_X6_next N (zuI (s_X6_next N σ) q 8 (nI (u + 1)))).2 2 1 = q + 1 ∧ (s_X6_next N (zuI (s_X6_next N σ) q 8 (nI (u + 1)))).1 (q + 2) f = nI a ∧ P 5 (nI a) (x1 + 1) (s_X6_next N (zuI (s_X6_next N σ) q 8 (nI (u + 1)))) ∧ (¬ (G 5 (nI a) (x1 + 1) (s_X6_next N (zuI (s_X6_next N σ) q 8 (nI (u + 1))))).1 = 0 → (G 5 (nI a) (x1 + 1) (s_X6_next N (zuI (s_X6_next N σ) q 8 (nI (u + 1))))).2.2 2 1 = q + 1 ∧ p_X2_emit q 12 (nI f) (G 5 (nI a) (x1 + 1) (s_X6_next N (zuI (s_X6_next N σ) q 8 (nI (u + 1))))).2)) : p_X3_readNamed P G x1 x2 N σ := by
  have e1 : u_X3_readNamed_1 G x1 x2 N σ = s_X6_next N σ := rfl
  unfold p_X3_readNamed
  rw [e1]
  refine ⟨hn, fun y => absurd hk y, fun _ => ⟨hpf, fun y x0 => ?_⟩⟩
  have cf := c.resolve_right y
  obtain ⟨h1, h2, h3, h4, h5, h6, h7⟩ := hx x0 cf
  have er : (s_X6_next N σ).2 2 1 - 1 = q := by rw [h1]; rfl
  have e6 : u_X3_readNamed_6 G x1 x2 N σ = zuI (s_X6_next N σ) q 8 (nI (u + 1)) := by
    unfold u_X3_readNamed_6
    rw [e1, er, h2, nI_1]
  have e7 : u_X3_readNamed_7 G x1 x2 N σ = s_X6_next N (zuI (s_X6_next N σ) q 8 (nI (u + 1))) := by
    unfold u_X3_readNamed_7
    rw [e6]
  have er7 : (s_X6_next N (zuI (s_X6_next N σ) q 8 (nI (u + 1)))).2 2 1 - 1 = q := by rw [h4]; rfl
  have ea : f_X8_at 6 (q + 2) (nI f) (s_X6_next N (zuI (s_X6_next N σ) q 8 (nI (u + 1)))) = nI a := by rw [at_i hf (by decide), h5]
  have e8 : u_X3_readNamed_8 G x1 x2 N σ = (G 5 (nI a) (x1 + 1) (s_X6_next N (zuI (s_X6_next N σ) q 8 (nI (u + 1))))).2 := by
    unfold u_X3_readNamed_8
    rw [e7, er7, e1, cf, ea]
  rw [e6, e7, er7, cf, ea, e8]
  refine ⟨⟨by rw [h1]; omega, by rw [er]; exact hl⟩, h3, ⟨by rw [h4]; omega, hl⟩, at_p (by decide), h6, fun g => ?_⟩
  obtain ⟨k1, k2⟩ := h7 g
  have er8 : (G 5 (nI a) (x1 + 1) (s_X6_next N (zuI (s_X6_next N σ) q 8 (nI (u + 1))))).2.2 2 1 - 1 = q := by rw [k1]; rfl
  rw [er8]
  exact ⟨⟨by rw [k1]; omega, hl⟩, k2⟩
end IS
