/-! the class's unit: ( and - -/
section IS
variable {N q u d : Nat} {σ σ1 : zS} {P : Nat → Int32 → Int32 → zS → Prop} {G : Nat → Int32 → Int32 → zS → Int32 × zS}
/-- one too many, or counted and gone on behind the sign -/
theorem cu_sgn {kd : Nat} (hq : σ.2 2 1 = q + 1) (hl : zlay q = (2, 16)) (h8 : σ.1 q 8 = nI u) (u80 : u ≤ 80) (d9 : d ≤ 9) (hk : σ.1 3 2 = nI kd) (kk : kd = 40 ∨ kd = 45) (hN : 5 < N) (h1 : ¬ tmU u d σ → q_X3_readUnit P G N (N - 1) 2 (nI d) 0 (nI kd) (σ.1 3 3) σ) : p_X3_readUnit P G (nI d) N σ ∧ (tmU u d σ → r_X3_readUnit G (nI d) N σ = (0, zuI (zuI σ 2 2 5) 2 3 (σ.1 3 3))) ∧ (¬ tmU u d σ → r_X3_readUnit G (nI d) N σ = l_X3_readUnit G N (N - 1) 2 (nI d) 0 (nI kd) (σ.1 3 3) σ) := by
  obtain ⟨N1, hN1⟩ : ∃ z, N = z + 1 + 1 + 1 := ⟨N - 3, by omega⟩
  have eN : N - 1 = N1 + 1 + 1 := by omega
  have n10 : ¬ (1 : Int32) = 0 := by decide
  have n3 : ¬ nI kd = 302 := fun y => by have := (nI_eq (b := 302) (by omega) (by decide)).mp y; omega
  have n1 : ¬ nI kd = 303 := fun y => by have := (nI_eq (b := 303) (by omega) (by decide)).mp y; omega
  obtain ⟨s1, s2⟩ := cu_split (G := G) (N := N) hq h8 u80 d9
  rw [eN] at h1 ⊢
  have L1 : ∀ (z : Nat) (x2 : Int32), l_X3_readUnit G N (z + 1) 1 (nI d) x2 (nI kd) (σ.1 3 3) σ = l_X3_readUnit G N z 2 (nI d) x2 (nI kd) (σ.1 3 3) σ := fun z x2 => by
    rw [l_X3_readUnit, if_neg n3]
  have Q1 : ∀ (z : Nat) (x2 : Int32), q_X3_readUnit P G N z 2 (nI d) x2 (nI kd) (σ.1 3 3) σ → q_X3_readUnit P G N (z + 1) 1 (nI d) x2 (nI kd) (σ.1 3 3) σ := fun z x2 y => by
    rw [q_X3_readUnit]
    exact ⟨fun _ => y, fun y1 => absurd y1 n3⟩
  have l0 : l_X3_readUnit G N (N1 + 1 + 1 + 1) 0 (nI d) 0 0 0 σ = l_X3_readUnit G N (N1 + 1 + 1) 1 (nI d) 1 (nI kd) (σ.1 3 3) σ := by
    rw [l_X3_readUnit, hk, if_neg n1, if_neg n3]
    rcases kk with rfl | rfl
    · rw [if_pos (show nI 40 = 40 from rfl)]
    · rw [if_neg (show ¬ nI 45 = 40 by decide), if_pos (show nI 45 = 45 from rfl)]
  have l2 : l_X3_readUnit G N (N1 + 1) 2 (nI d) 1 (nI kd) (σ.1 3 3) σ = (0, zuI (zuI σ 2 2 5) 2 3 (σ.1 3 3)) := by
    rw [l_X3_readUnit, if_neg n10]
    rfl
  have q2 : q_X3_readUnit P G N (N1 + 1) 2 (nI d) 1 (nI kd) (σ.1 3 3) σ := by
    rw [q_X3_readUnit]
    exact fun y => absurd y n10
  have q0 : q_X3_readUnit P G N (N1 + 1 + 1 + 1) 0 (nI d) 0 0 0 σ := by
    rw [q_X3_readUnit, hk]
    exact ⟨fun _ => ⟨fun y => absurd y n3, fun _ => ⟨fun _ => Q1 _ _ q2, fun _ _ => Q1 _ _ q2⟩⟩, fun y => absurd y n1⟩
  rw [← hN1] at l0 q0
  refine ⟨cu_psplit hq hl h8 u80 d9 (fun _ => q0) (fun t _ _ => ?_) (fun _ y => absurd (hk.symm.trans y) n1), fun t => ?_, fun t => ?_⟩
  · have := Q1 _ _ (h1 t)
    rw [← hN1] at this
    rw [hk]
    exact this
  · rw [s1 t, l0, L1, l2]
  · have e : l_X3_readUnit G N N 1 (nI d) 0 (nI kd) (σ.1 3 3) σ = l_X3_readUnit G N (N1 + 1 + 1) 2 (nI d) 0 (nI kd) (σ.1 3 3) σ := by
      have := L1 (N1 + 1 + 1) 0
      rw [← hN1] at this
      exact this
    rw [s2 t, hk, if_neg n1, if_neg n3]
    rcases kk with rfl | rfl
    · rw [if_pos (show nI 40 = 40 from rfl)]; exact e
    · rw [if_neg (show ¬ nI 45 = 40 by decide), if_pos (show nI 45 = 45 from rfl)]; exact e
/-- ( : the formula within, then ) -/
theorem cu_par {z : Nat} {x4 : Int32} (hq : σ.2 2 1 = q + 1) (hl : zlay q = (2, 16)) (h8 : σ.1 q 8 = nI u) (hn : p_X6_next N (zuI σ q 8 (nI (u + 1)))) (hP : P 0 (nI (d + 1)) 0 (s_X6_next N (zuI σ q 8 (nI (u + 1))))) (hs : ¬ (G 0 (nI (d + 1)) 0 (s_X6_next N (zuI σ q 8 (nI (u + 1))))).1 = 0 → p_X3_readSign 41 N (G 0 (nI (d + 1)) 0 (s_X6_next N (zuI σ q 8 (nI (u + 1))))).2) : q_X3_readUnit P G N (z + 1 + 1) 2 (nI d) 0 (nI 40) x4 σ ∧ ((G 0 (nI (d + 1)) 0 (s_X6_next N (zuI σ q 8 (nI (u + 1))))).1 = 0 → l_X3_readUnit G N (z + 1 + 1) 2 (nI d) 0 (nI 40) x4 σ = (0, (G 0 (nI (d + 1)) 0 (s_X6_next N (zuI σ q 8 (nI (u + 1))))).2)) ∧ (¬ (G 0 (nI (d + 1)) 0 (s_X6_next N (zuI σ q 8 (nI (u + 1))))).1 = 0 → ((r_X3_readSign 41 N (G 0 (nI (d + 1)) 0 (s_X6_next N (zuI σ q 8 (nI (u + 1))))).2).1 = 0 ∨ (r_X3_readSign 41 N (G 0 (nI (d + 1)) 0 (s_X6_next N (zuI σ q 8 (nI (u + 1))))).2).1 = 1) → l_X3_readUnit G N (z + 1 + 1) 2 (nI d) 0 (nI 40) x4 σ = r_X3_readSign 41 N (G 0 (nI (d + 1)) 0 (s_X6_next N (zuI σ q 8 (nI (u + 1))))).2) := by
  have n10 : ¬ (1 : Int32) = 0 := by decide
  have n2 : ¬ nI 40 = 302 := by decide
  have n4 : nI 40 = 40 := rfl
  have er : σ.2 2 1 - 1 = q := by rw [hq]; rfl
  have e21 : u_X3_readUnit_h2_1 G N (nI d) 0 (nI 40) x4 σ = zuI σ q 8 (nI (u + 1)) := by
    unfold u_X3_readUnit_h2_1
    rw [er, h8, nI_1]
  have e22 : u_X3_readUnit_h2_2 G N (nI d) 0 (nI 40) x4 σ = s_X6_next N (zuI σ q 8 (nI (u + 1))) := by
    unfold u_X3_readUnit_h2_2
    rw [e21]
  have e25 : u_X3_readUnit_h2_5 G N (nI d) 0 (nI 40) x4 σ = (G 0 (nI (d + 1)) 0 (s_X6_next N (zuI σ q 8 (nI (u + 1))))).2 := by
    unfold u_X3_readUnit_h2_5
    rw [e22, nI_1]
  have e26 : u_X3_readUnit_h2_6 G N (nI d) 0 (nI 40) x4 σ = (r_X3_readSign 41 N (G 0 (nI (d + 1)) 0 (s_X6_next N (zuI σ q 8 (nI (u + 1))))).2).2 := by
    unfold u_X3_readUnit_h2_6
    rw [e25]
  have q3 : ∀ σ2, q_X3_readUnit P G N (z + 1) 3 (nI d) 0 (nI 40) x4 σ2 := fun σ2 => by
    rw [q_X3_readUnit]
    trivial
  refine ⟨?_, fun c => ?_, fun c c2 => ?_⟩
  · rw [q_X3_readUnit, e21, e22, e25, nI_1]
    exact fun _ => ⟨⟨by rw [hq]; omega, by rw [er]; exact hl⟩, fun _ => ⟨hn, fun y => absurd n4 y, fun _ => ⟨hP, fun _ => q3 _, fun y => ⟨hs y, fun _ => q3 _⟩⟩⟩, fun y => absurd y n2⟩
  · rw [l_X3_readUnit, if_pos rfl, if_neg n2, if_pos n4, e22, nI_1, if_pos c, l_X3_readUnit, e25]
  · rw [l_X3_readUnit, if_pos rfl, if_neg n2, if_pos n4, e22, nI_1, if_neg c, e25, e26]
    rcases c2 with c2 | c2
    · rw [if_pos c2, l_X3_readUnit]
      exact Prod.ext c2.symm rfl
    · rw [if_neg (by rw [c2]; exact n10)]
      exact Prod.ext c2.symm rfl
/-- - : the unit within, then MINUS -/
theorem cu_min {z : Nat} {x4 : Int32} (hq : σ.2 2 1 = q + 1) (hl : zlay q = (2, 16)) (h8 : σ.1 q 8 = nI u) (hn : p_X6_next N (zuI σ q 8 (nI (u + 1)))) (hP : P 3 (nI (d + 1)) 0 (s_X6_next N (zuI σ q 8 (nI (u + 1))))) (hr : ¬ (G 3 (nI (d + 1)) 0 (s_X6_next N (zuI σ q 8 (nI (u + 1))))).1 = 0 → (G 3 (nI (d + 1)) 0 (s_X6_next N (zuI σ q 8 (nI (u + 1))))).2.2 2 1 = q + 1 ∧ p_X2_emit q 2 0 (G 3 (nI (d + 1)) 0 (s_X6_next N (zuI σ q 8 (nI (u + 1))))).2) : q_X3_readUnit P G N (z + 1 + 1) 2 (nI d) 0 (nI 45) x4 σ ∧ ((G 3 (nI (d + 1)) 0 (s_X6_next N (zuI σ q 8 (nI (u + 1))))).1 = 0 → l_X3_readUnit G N (z + 1 + 1) 2 (nI d) 0 (nI 45) x4 σ = (0, (G 3 (nI (d + 1)) 0 (s_X6_next N (zuI σ q 8 (nI (u + 1))))).2)) ∧ (¬ (G 3 (nI (d + 1)) 0 (s_X6_next N (zuI σ q 8 (nI (u + 1))))).1 = 0 → l_X3_readUnit G N (z + 1 + 1) 2 (nI d) 0 (nI 45) x4 σ = (1, (r_X2_emit q 2 0 (G 3 (nI (d + 1)) 0 (s_X6_next N (zuI σ q 8 (nI (u + 1))))).2).2)) := by
  have n2 : ¬ nI 45 = 302 := by decide
  have n4 : ¬ nI 45 = 40 := by decide
  have er : σ.2 2 1 - 1 = q := by rw [hq]; rfl
  have e21 : u_X3_readUnit_h2_1 G N (nI d) 0 (nI 45) x4 σ = zuI σ q 8 (nI (u + 1)) := by
    unfold u_X3_readUnit_h2_1
    rw [er, h8, nI_1]
  have e22 : u_X3_readUnit_h2_2 G N (nI d) 0 (nI 45) x4 σ = s_X6_next N (zuI σ q 8 (nI (u + 1))) := by
    unfold u_X3_readUnit_h2_2
    rw [e21]
  have e23 : u_X3_readUnit_h2_3 G N (nI d) 0 (nI 45) x4 σ = (G 3 (nI (d + 1)) 0 (s_X6_next N (zuI σ q 8 (nI (u + 1))))).2 := by
    unfold u_X3_readUnit_h2_3
    rw [e22, nI_1]
  refine ⟨?_, fun c => ?_, fun c => ?_⟩
  · rw [q_X3_readUnit, e21, e22, e23, nI_1]
    refine fun _ => ⟨⟨by rw [hq]; omega, by rw [er]; exact hl⟩, fun _ => ⟨hn, fun _ => ⟨hP, fun y => ?_⟩, fun y => absurd y n4⟩, fun y => absurd y n2⟩
    obtain ⟨r1, r2⟩ := hr y
    have er2 : (G 3 (nI (d + 1)) 0 (s_X6_next N (zuI σ q 8 (nI (u + 1))))).2.2 2 1 - 1 = q := by rw [r1]; rfl
    rw [er2]
    exact ⟨⟨by rw [r1]; omega, hl⟩, r2⟩
  · rw [l_X3_readUnit, if_pos rfl, if_neg n2, if_neg n4, e22, nI_1, if_pos c, e23]
  · obtain ⟨r1, r2⟩ := hr c
    have er2 : (G 3 (nI (d + 1)) 0 (s_X6_next N (zuI σ q 8 (nI (u + 1))))).2.2 2 1 - 1 = q := by rw [r1]; rfl
    rw [l_X3_readUnit, if_pos rfl, if_neg n2, if_neg n4, e22, nI_1, if_neg c]
    unfold u_X3_readUnit_h2_4
    rw [e23, er2]
end IS
