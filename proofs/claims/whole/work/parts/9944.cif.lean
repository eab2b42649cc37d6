/-! the class's IF -/
section IS
variable {N : Nat} {σ σ1 : zS} {P : Nat → Int32 → Int32 → zS → Prop} {G : Nat → Int32 → Int32 → zS → Int32 × zS}
def cf1 (G : Nat → Int32 → Int32 → zS → Int32 × zS) (N d : Nat) (σ : zS) : Int32 × zS := G 1 (nI d + 1) 0 (s_X6_next N σ)
def cf2 (G : Nat → Int32 → Int32 → zS → Int32 × zS) (N d : Nat) (c : Int32) (σ : zS) : Int32 × zS := r_X2_emit ((cf1 G N d σ).2.2 2 1 - 1) c 0 (cf1 G N d σ).2
def cf3 (G : Nat → Int32 → Int32 → zS → Int32 × zS) (N d : Nat) (c : Int32) (σ : zS) : Int32 × zS := r_X3_readSign 321 N (cf2 G N d c σ).2
def cf4 (G : Nat → Int32 → Int32 → zS → Int32 × zS) (N d : Nat) (c : Int32) (σ : zS) : Int32 × zS := G 0 (nI d + 1) 0 (cf3 G N d c σ).2
def cf5 (G : Nat → Int32 → Int32 → zS → Int32 × zS) (N d : Nat) (c : Int32) (σ : zS) : Int32 × zS := r_X2_emit ((cf4 G N d c σ).2.2 2 1 - 1) 11 0 (cf4 G N d c σ).2
def cf6 (G : Nat → Int32 → Int32 → zS → Int32 × zS) (N d : Nat) (c : Int32) (σ : zS) : zS := s_X8_put 400 (((cf5 G N d c σ).2.2 2 1 - 1) + 6) (cf2 G N d c σ).1 ((cf5 G N d c σ).2.1 ((cf5 G N d c σ).2.2 2 1 - 1) 9) (cf5 G N d c σ).2
def cf7 (G : Nat → Int32 → Int32 → zS → Int32 × zS) (N d : Nat) (c : Int32) (σ : zS) : Int32 × zS := r_X3_readSign 322 N (cf6 G N d c σ)
def cf8 (G : Nat → Int32 → Int32 → zS → Int32 × zS) (N d : Nat) (c : Int32) (σ : zS) : Int32 × zS := G 0 (nI d + 1) 0 (cf7 G N d c σ).2
def cf9 (G : Nat → Int32 → Int32 → zS → Int32 × zS) (N d : Nat) (c : Int32) (σ : zS) : zS := s_X8_put 400 (((cf8 G N d c σ).2.2 2 1 - 1) + 6) (cf5 G N d c σ).1 ((cf8 G N d c σ).2.1 ((cf8 G N d c σ).2.2 2 1 - 1) 9) (cf8 G N d c σ).2
def cfR (G : Nat → Int32 → Int32 → zS → Int32 × zS) (N d : Nat) (c : Int32) (σ : zS) : Int32 × zS := if (cf1 G N d σ).1 = 0 then (0, (cf1 G N d σ).2) else (if (cf3 G N d c σ).1 = 0 then (0, (cf3 G N d c σ).2) else (if (cf4 G N d c σ).1 = 0 then (0, (cf4 G N d c σ).2) else (if (cf7 G N d c σ).1 = 0 then (0, (cf7 G N d c σ).2) else (if (cf8 G N d c σ).1 = 0 then (0, (cf8 G N d c σ).2) else (1, cf9 G N d c σ)))))
/-- what it asks -/
def cfP3 (P : Nat → Int32 → Int32 → zS → Prop) (G : Nat → Int32 → Int32 → zS → Int32 × zS) (N d : Nat) (c : Int32) (σ : zS) : Prop := ((cf4 G N d c σ).2.2 2 1 ≠ 0 ∧ zlay ((cf4 G N d c σ).2.2 2 1 - 1) = (2, 16)) ∧ (p_X2_emit ((cf4 G N d c σ).2.2 2 1 - 1) 11 0 (cf4 G N d c σ).2 ∧ (((cf5 G N d c σ).2.2 2 1 ≠ 0 ∧ zlay ((cf5 G N d c σ).2.2 2 1 - 1) = (2, 16)) ∧ (p_X8_put 400 (((cf5 G N d c σ).2.2 2 1 - 1) + 6) (cf2 G N d c σ).1 ((cf5 G N d c σ).2.1 ((cf5 G N d c σ).2.2 2 1 - 1) 9) (cf5 G N d c σ).2 ∧ (p_X3_readSign 322 N (cf6 G N d c σ) ∧ (¬ (cf7 G N d c σ).1 = 0 → (P 0 (nI d + 1) 0 (cf7 G N d c σ).2 ∧ (¬ (cf8 G N d c σ).1 = 0 → (((cf8 G N d c σ).2.2 2 1 ≠ 0 ∧ zlay ((cf8 G N d c σ).2.2 2 1 - 1) = (2, 16)) ∧ p_X8_put 400 (((cf8 G N d c σ).2.2 2 1 - 1) + 6) (cf5 G N d c σ).1 ((cf8 G N d c σ).2.1 ((cf8 G N d c σ).2.2 2 1 - 1) 9) (cf8 G N d c σ).2))))))))
def cfP (P : Nat → Int32 → Int32 → zS → Prop) (G : Nat → Int32 → Int32 → zS → Int32 × zS) (N d : Nat) (c : Int32) (σ : zS) : Prop := p_X6_next N σ ∧ (P 1 (nI d + 1) 0 (s_X6_next N σ) ∧ (¬ (cf1 G N d σ).1 = 0 → (((cf1 G N d σ).2.2 2 1 ≠ 0 ∧ zlay ((cf1 G N d σ).2.2 2 1 - 1) = (2, 16)) ∧ (p_X2_emit ((cf1 G N d σ).2.2 2 1 - 1) c 0 (cf1 G N d σ).2 ∧ (p_X3_readSign 321 N (cf2 G N d c σ).2 ∧ (¬ (cf3 G N d c σ).1 = 0 → (P 0 (nI d + 1) 0 (cf3 G N d c σ).2 ∧ (¬ (cf4 G N d c σ).1 = 0 → cfP3 P G N d c σ))))))))
theorem cf_l {z d kd o : Nat} (hk : (kd = 60 ∧ o = 9) ∨ (kd = 62 ∧ o = 10) ∨ (kd = 61 ∧ o = 11)) : l_X3_readFormula G N (z + 1 + 1) 1 (nI d) (nI kd) 0 0 0 σ = cfR G N d (nI (cmap o)) σ ∧ (cfP P G N d (nI (cmap o)) σ → q_X3_readFormula P G N (z + 1 + 1) 1 (nI d) (nI kd) 0 0 0 σ) := by
  have h2 : ∀ (v1 v2 v3 v4 v5 : Int32) (σ : zS), l_X3_readFormula G N (z + 1) 2 v1 v2 v3 v4 v5 σ = (0, σ) := fun v1 v2 v3 v4 v5 σ => by rw [l_X3_readFormula]
  have h3 : ∀ (v1 v2 v3 v4 v5 : Int32) (σ : zS), l_X3_readFormula G N (z + 1) 3 v1 v2 v3 v4 v5 σ = (0, σ) := fun v1 v2 v3 v4 v5 σ => by rw [l_X3_readFormula]
  have k2 : ∀ (v1 v2 v3 v4 v5 : Int32) (σ : zS), q_X3_readFormula P G N (z + 1) 2 v1 v2 v3 v4 v5 σ := fun v1 v2 v3 v4 v5 σ => by rw [q_X3_readFormula]; trivial
  have k3 : ∀ (v1 v2 v3 v4 v5 : Int32) (σ : zS), q_X3_readFormula P G N (z + 1) 3 v1 v2 v3 v4 v5 σ := fun v1 v2 v3 v4 v5 σ => by rw [q_X3_readFormula]; trivial
  rcases hk with ⟨rfl, rfl⟩ | ⟨rfl, rfl⟩ | ⟨rfl, rfl⟩
  · refine ⟨?_, fun y => ?_⟩
    · rw [l_X3_readFormula, if_pos (show nI 60 = 60 from rfl), h2, h2, h3, h3]
      rfl
    · rw [q_X3_readFormula]
      refine ⟨y.1, y.2.1, fun c1 => ⟨fun w => absurd rfl w, fun _ => ?_⟩⟩
      obtain ⟨a1, a2, a3, a4⟩ := y.2.2 c1
      refine ⟨a1, a2, a3, fun _ => k2 _ _ _ _ _ _, fun c2 => ?_⟩
      obtain ⟨b1, b2⟩ := a4 c2
      refine ⟨b1, fun c3 => ?_, fun _ => k2 _ _ _ _ _ _⟩
      obtain ⟨d1, d2, d3, d4, d5, d6⟩ := b2 c3
      refine ⟨d1, d2, d3, d4, d5, fun _ => k3 _ _ _ _ _ _, fun c4 => ?_⟩
      obtain ⟨e1, e2⟩ := d6 c4
      exact ⟨e1, e2, fun _ => k3 _ _ _ _ _ _⟩
  · have n1 : ¬ nI 62 = 60 := by decide
    refine ⟨?_, fun y => ?_⟩
    · rw [l_X3_readFormula, if_neg n1, if_pos (show nI 62 = 62 from rfl), h2, h2, h3, h3]
      rfl
    · rw [q_X3_readFormula]
      refine ⟨y.1, y.2.1, fun c1 => ⟨fun _ => ⟨fun w => absurd rfl w, fun _ => ?_⟩, fun w => absurd w n1⟩⟩
      obtain ⟨a1, a2, a3, a4⟩ := y.2.2 c1
      refine ⟨a1, a2, a3, fun _ => k2 _ _ _ _ _ _, fun c2 => ?_⟩
      obtain ⟨b1, b2⟩ := a4 c2
      refine ⟨b1, fun c3 => ?_, fun _ => k2 _ _ _ _ _ _⟩
      obtain ⟨d1, d2, d3, d4, d5, d6⟩ := b2 c3
      refine ⟨d1, d2, d3, d4, d5, fun _ => k3 _ _ _ _ _ _, fun c4 => ?_⟩
      obtain ⟨e1, e2⟩ := d6 c4
      exact ⟨e1, e2, fun _ => k3 _ _ _ _ _ _⟩
  · have n1 : ¬ nI 61 = 60 := by decide
    have n2 : ¬ nI 61 = 62 := by decide
    refine ⟨?_, fun y => ?_⟩
    · rw [l_X3_readFormula, if_neg n1, if_neg n2, h2, h2, h3, h3]
      rfl
    · rw [q_X3_readFormula]
      refine ⟨y.1, y.2.1, fun c1 => ⟨fun _ => ⟨fun _ => ?_, fun w => absurd w n2⟩, fun w => absurd w n1⟩⟩
      obtain ⟨a1, a2, a3, a4⟩ := y.2.2 c1
      refine ⟨a1, a2, a3, fun _ => k2 _ _ _ _ _ _, fun c2 => ?_⟩
      obtain ⟨b1, b2⟩ := a4 c2
      refine ⟨b1, fun c3 => ?_, fun _ => k2 _ _ _ _ _ _⟩
      obtain ⟨d1, d2, d3, d4, d5, d6⟩ := b2 c3
      refine ⟨d1, d2, d3, d4, d5, fun _ => k3 _ _ _ _ _ _, fun c4 => ?_⟩
      obtain ⟨e1, e2⟩ := d6 c4
      exact ⟨e1, e2, fun _ => k3 _ _ _ _ _ _⟩
/-- a formula that begins with no IF is a sum; one too many; its first sum -/
theorem cf_r {d : Nat} (hN : 5 < N) (d9 : d ≤ 9) : (¬ σ.1 3 2 = 320 → P 1 (nI d) 0 σ → ((G 1 (nI d) 0 σ).1 = 0 ∨ (G 1 (nI d) 0 σ).1 = 1) → p_X3_readFormula P G (nI d) N σ ∧ r_X3_readFormula G (nI d) N σ = G 1 (nI d) 0 σ) ∧ (σ.1 3 2 = 320 → (5 < d ∨ σ.1 3 3 = σ.1 2 6) → p_X3_readFormula P G (nI d) N σ ∧ r_X3_readFormula G (nI d) N σ = (0, zuI (zuI σ 2 2 5) 2 3 (σ.1 3 3))) ∧ (σ.1 3 2 = 320 → d ≤ 5 → ¬ σ.1 3 3 = σ.1 2 6 → p_X6_next N σ → P 1 (nI d + 1) 0 (s_X6_next N σ) → ((cf1 G N d σ).1 = 0 → p_X3_readFormula P G (nI d) N σ ∧ r_X3_readFormula G (nI d) N σ = (0, (cf1 G N d σ).2)) ∧ (¬ (cf1 G N d σ).1 = 0 → ((¬ (cf1 G N d σ).2.1 3 2 = 60 → ¬ (cf1 G N d σ).2.1 3 2 = 62 → ¬ (cf1 G N d σ).2.1 3 2 = 61 → p_X3_readFormula P G (nI d) N σ ∧ r_X3_readFormula G (nI d) N σ = (0, zuI (zuI (cf1 G N d σ).2 2 2 1) 2 3 ((cf1 G N d σ).2.1 3 3))) ∧ (((cf1 G N d σ).2.1 3 2 = 60 ∨ (cf1 G N d σ).2.1 3 2 = 62 ∨ (cf1 G N d σ).2.1 3 2 = 61) → (q_X3_readFormula P G N N 1 (nI d) ((cf1 G N d σ).2.1 3 2) 0 0 0 (cf1 G N d σ).2 → p_X3_readFormula P G (nI d) N σ) ∧ r_X3_readFormula G (nI d) N σ = l_X3_readFormula G N N 1 (nI d) ((cf1 G N d σ).2.1 3 2) 0 0 0 (cf1 G N d σ).2)))) := by
  obtain ⟨N1, rfl⟩ : ∃ z, N = z + 1 := ⟨N - 1, by omega⟩
  have a2 : (5 : Int32) < nI d ↔ 5 < d := by
    constructor
    · intro y
      apply Classical.byContradiction
      intro w
      exact nI_nlt (a := 5) (b := d) (by omega) (by decide) y
    · intro y
      exact nI_lt (a := 5) y (by omega)
  have q0 : q_X3_readFormula P G (N1 + 1) (N1 + 1) 0 (nI d) 0 0 0 0 σ := by rw [q_X3_readFormula]; trivial
  have l0 : l_X3_readFormula G (N1 + 1) (N1 + 1) 0 (nI d) 0 0 0 0 σ = (0, zuI (zuI σ 2 2 5) 2 3 (σ.1 3 3)) := by rw [l_X3_readFormula]; rfl
  refine ⟨fun h hP h01 => ⟨⟨fun y => absurd y h, fun _ => ⟨hP, h01⟩⟩, ?_⟩, fun h c => ⟨⟨fun _ => ?_, fun y => absurd h y⟩, ?_⟩, fun h d5 hs hn hP => ⟨fun g0 => ⟨⟨fun _ => ?_, fun y => absurd h y⟩, ?_⟩, fun g1 => ⟨fun c1 c2 c3 => ⟨⟨fun _ => ?_, fun y => absurd h y⟩, ?_⟩, fun cc => ⟨fun qq => ⟨fun _ => ?_, fun y => absurd h y⟩, ?_⟩⟩⟩⟩
  · unfold r_X3_readFormula
    rw [if_neg h]
    rfl
  · refine ⟨fun _ => q0, fun y => ⟨fun w => ?_, fun _ => q0⟩⟩
    rcases c with c | c
    · exact absurd (a2.mpr c) y
    · exact absurd c w
  · unfold r_X3_readFormula
    rw [if_pos h]
    by_cases y : (5 : Int32) < nI d
    · rw [if_pos y, l0]
    · rw [if_neg y]
      rcases c with c | c
      · exact absurd (a2.mpr c) y
      · rw [if_pos c, l0]
  · exact ⟨fun y => absurd (a2.mp y) (by omega), fun _ => ⟨fun _ => ⟨hn, hP, fun y => absurd g0 y⟩, fun y => absurd y hs⟩⟩
  · unfold r_X3_readFormula
    rw [if_pos h, if_neg (fun y => absurd (a2.mp y) (by omega)), if_neg hs, if_pos (show (G 1 (nI d + 1) 0 (u_X3_readFormula_1 G (nI d) (N1 + 1) σ)).1 = 0 from g0)]
    rfl
  · exact ⟨fun y => absurd (a2.mp y) (by omega), fun _ => ⟨fun _ => ⟨hn, hP, fun _ => ⟨fun y => absurd y c1, fun _ => ⟨fun y => absurd y c2, fun _ y => absurd y c3⟩⟩⟩, fun y => absurd y hs⟩⟩
  · unfold r_X3_readFormula
    rw [if_pos h, if_neg (fun y => absurd (a2.mp y) (by omega)), if_neg hs, if_neg (show ¬ (G 1 (nI d + 1) 0 (u_X3_readFormula_1 G (nI d) (N1 + 1) σ)).1 = 0 from g1), if_neg (show ¬ (u_X3_readFormula_2 G (nI d) (N1 + 1) σ).1 3 2 = 60 from c1), if_neg (show ¬ (u_X3_readFormula_2 G (nI d) (N1 + 1) σ).1 3 2 = 62 from c2), if_neg (show ¬ (u_X3_readFormula_2 G (nI d) (N1 + 1) σ).1 3 2 = 61 from c3)]
    rfl
  · exact ⟨fun y => absurd (a2.mp y) (by omega), fun _ => ⟨fun _ => ⟨hn, hP, fun _ => ⟨fun _ => qq, fun _ => ⟨fun _ => qq, fun _ _ => qq⟩⟩⟩, fun y => absurd y hs⟩⟩
  · unfold r_X3_readFormula
    rw [if_pos h, if_neg (fun y => absurd (a2.mp y) (by omega)), if_neg hs, if_neg (show ¬ (G 1 (nI d + 1) 0 (u_X3_readFormula_1 G (nI d) (N1 + 1) σ)).1 = 0 from g1)]
    show (if (cf1 G (N1 + 1) d σ).2.1 3 2 = 60 then l_X3_readFormula G (N1 + 1) (N1 + 1) 1 (nI d) ((cf1 G (N1 + 1) d σ).2.1 3 2) 0 0 0 (cf1 G (N1 + 1) d σ).2 else (if (cf1 G (N1 + 1) d σ).2.1 3 2 = 62 then l_X3_readFormula G (N1 + 1) (N1 + 1) 1 (nI d) ((cf1 G (N1 + 1) d σ).2.1 3 2) 0 0 0 (cf1 G (N1 + 1) d σ).2 else (if (cf1 G (N1 + 1) d σ).2.1 3 2 = 61 then l_X3_readFormula G (N1 + 1) (N1 + 1) 1 (nI d) ((cf1 G (N1 + 1) d σ).2.1 3 2) 0 0 0 (cf1 G (N1 + 1) d σ).2 else _))) = _
    by_cases k1 : (cf1 G (N1 + 1) d σ).2.1 3 2 = 60
    · rw [if_pos k1]
    · rw [if_neg k1]
      by_cases k2 : (cf1 G (N1 + 1) d σ).2.1 3 2 = 62
      · rw [if_pos k2]
      · rw [if_neg k2]
        rcases cc with c | c | c
        · exact absurd c k1
        · exact absurd c k2
        · rw [if_pos c]
end IS
