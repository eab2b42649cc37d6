/-! the class's name: a parameter, or a call's beginning -/
section IS
variable {N q u : Nat} {σ : zS} {x1 x2 : Int32} {P : Nat → Int32 → Int32 → zS → Prop} {G : Nat → Int32 → Int32 → zS → Int32 × zS}
/-- no ( behind it -/
theorem cn_par {k2 p : Nat} (hn : p_X6_next N σ) (hk : (s_X6_next N σ).1 3 2 = nI k2) (k4 : k2 < 400) (hk2 : ¬ k2 = 40) (hp : p_X3_parameterNamed (σ.1 3 3) (σ.1 3 4) N (s_X6_next N σ)) (hq : (s_X6_next N σ).2 2 1 = q + 1) (hl : zlay q = (2, 16)) (h8 : (s_X6_next N σ).1 q 8 = nI u) (p9 : p < 10) : p_X3_readNamed P G x1 x2 N σ ∧ (f_X3_parameterNamed (σ.1 3 3) (σ.1 3 4) N (s_X6_next N σ) = -1 → r_X3_readNamed G x1 x2 N σ = (0, zuI (zuI (s_X6_next N σ) 2 2 4) 2 3 (σ.1 3 3))) ∧ (f_X3_parameterNamed (σ.1 3 3) (σ.1 3 4) N (s_X6_next N σ) = nI p → x2 = 0 → r_X3_readNamed G x1 x2 N σ = (1, (r_X2_emit q 1 (nI p) (zuI (s_X6_next N σ) q 8 (nI (u + 1)))).2)) ∧ (f_X3_parameterNamed (σ.1 3 3) (σ.1 3 4) N (s_X6_next N σ) = nI p → ¬ x2 = 0 → r_X3_readNamed G x1 x2 N σ = (0, zuI (zuI (s_X6_next N σ) 2 2 5) 2 3 (σ.1 3 3))) := by
  have e1 : u_X3_readNamed_1 G x1 x2 N σ = s_X6_next N σ := rfl
  have n40 : ¬ (s_X6_next N σ).1 3 2 = 40 := by
    rw [hk]
    intro y
    exact hk2 ((nI_eq (b := 40) (by omega) (by decide)).mp y)
  have er : (s_X6_next N σ).2 2 1 - 1 = q := by rw [hq]; rfl
  have e2 : u_X3_readNamed_2 G x1 x2 N σ = zuI (s_X6_next N σ) q 8 (nI (u + 1)) := by
    unfold u_X3_readNamed_2
    rw [e1, er, h8, nI_1]
  have np : ¬ nI p = -1 := fun y => nI_pos (n := p) (by omega) (by rw [y]; decide)
  refine ⟨?_, fun c => ?_, fun c c2 => ?_, fun c c2 => ?_⟩
  · unfold p_X3_readNamed
    rw [e1, e2]
    refine ⟨hn, fun _ => ⟨hp, fun _ _ => ⟨⟨by rw [hq]; omega, by rw [er]; exact hl⟩, ⟨by rw [gI_2, hq]; omega, by rw [gI_2, er]; exact hl⟩, fun _ => ⟨put_p (by decide), put_p (by decide)⟩⟩⟩, fun y => absurd y n40⟩
  · unfold r_X3_readNamed
    rw [e1, if_neg n40, c, if_pos rfl]
    rfl
  · unfold r_X3_readNamed
    rw [e1, if_neg n40, c, if_neg np, if_pos c2]
    unfold u_X3_readNamed_3
    rw [e2, gI_2, er, e1, c]
  · unfold r_X3_readNamed
    rw [e1, if_neg n40, c, if_neg np, if_neg c2]
    rfl
end IS
