/-! the class's name: a call -/
section IS
variable {N q u : Nat} {σ : zS} {x1 x2 : Int32} {P : Nat → Int32 → Int32 → zS → Prop} {G : Nat → Int32 → Int32 → zS → Int32 × zS}
theorem cn_call0 {f : Nat} (hk : (s_X6_next N σ).1 3 2 = 40) (hf : f < 6) : (f_X3_functionNamed (σ.1 3 3) (σ.1 3 4) N (s_X6_next N σ) = -1 → r_X3_readNamed G x1 x2 N σ = (0, zuI (zuI (s_X6_next N σ) 2 2 4) 2 3 (σ.1 3 3))) ∧ (f_X3_functionNamed (σ.1 3 3) (σ.1 3 4) N (s_X6_next N σ) = nI f → ¬ x2 = 0 → r_X3_readNamed G x1 x2 N σ = (0, zuI (zuI (s_X6_next N σ) 2 2 5) 2 3 (σ.1 3 3))) := by
  have e1 : u_X3_readNamed_1 G x1 x2 N σ = s_X6_next N σ := rfl
  have np : ¬ nI f = -1 := fun y => nI_pos (n := f) (by omega) (by rw [y]; decide)
  refine ⟨fun c => ?_, fun c c2 => ?_⟩
  · unfold r_X3_readNamed
    rw [e1, if_pos hk, c, if_pos rfl]
    rfl
  · unfold r_X3_readNamed
    rw [e1, if_pos hk, c, if_neg np, if_neg c2]
    rfl
theorem cn_call {f a : Nat} (hk : (s_X6_next N σ).1 3 2 = 40) (hf : f < 6) (c : f_X3_functionNamed (σ.1 3 3) (σ.1 3 4) N (s_X6_next N σ) = nI f) (hq : (s_X6_next N σ).2 2 1 = q + 1) (h8 : (s_X6_next N σ).1 q 8 = nI u) (hq7 : (s_X6_next N (zuI (s_X6_next N σ) q 8 (nI (u + 1)))).2 2 1 = q + 1) (ha : (s_X6_next N (zuI (s_X6_next N σ) q 8 (nI (u + 1)))).1 (q + 2) f = nI a) : ((G 5 (nI a) (x1 + 1) (s_X6_next N (zuI (s_X6_next N σ) q 8 (nI (u + 1))))).1 = 0 → r_X3_readNamed G x1 0 N σ = (0, (G 5 (nI a) (x1 + 1) (s_X6_next N (zuI (s_X6_next N σ) q 8 (nI (u + 1))))).2)) ∧ (¬ (G 5 (nI a) (x1 + 1) (s_X6_next N (zuI (s_X6_next N σ) q 8 (nI (u + 1))))).1 = 0 → (G 5 (nI a) (x1 + 1) (s_X6_next N (zuI (s_X6_next N σ) q 8 (nI (u + 1))))).2.2 2 1 = q + 1 → r_X3_readNamed G x1 0 N σ = (1, (r_X2_emit q 12 (nI f) (G 5 (nI a) (x1 + 1) (s_X6_next N (zuI (s_X6_next N σ) q 8 (nI (u + 1))))).2).2)) := by
  have e1 : u_X3_readNamed_1 G x1 0 N σ = s_X6_next N σ := rfl
  have np : ¬ nI f = -1 := fun y => nI_pos (n := f) (by omega) (by rw [y]; decide)
  have er : (s_X6_next N σ).2 2 1 - 1 = q := by rw [hq]; rfl
  have e6 : u_X3_readNamed_6 G x1 0 N σ = zuI (s_X6_next N σ) q 8 (nI (u + 1)) := by
    unfold u_X3_readNamed_6
    rw [e1, er, h8, nI_1]
  have e7 : u_X3_readNamed_7 G x1 0 N σ = s_X6_next N (zuI (s_X6_next N σ) q 8 (nI (u + 1))) := by
    unfold u_X3_readNamed_7
    rw [e6]
  have er7 : (s_X6_next N (zuI (s_X6_next N σ) q 8 (nI (u + 1)))).2 2 1 - 1 = q := by rw [hq7]; rfl
  have ea : f_X8_at 6 (q + 2) (nI f) (s_X6_next N (zuI (s_X6_next N σ) q 8 (nI (u + 1)))) = nI a := by rw [at_i hf (by decide), ha]
  have e8 : u_X3_readNamed_8 G x1 0 N σ = (G 5 (nI a) (x1 + 1) (s_X6_next N (zuI (s_X6_next N σ) q 8 (nI (u + 1))))).2 := by
    unfold u_X3_readNamed_8
    rw [e7, er7, e1, c, ea]
  refine ⟨fun c0 => ?_, fun c0 c1 => ?_⟩
  · unfold r_X3_readNamed
    rw [e1, if_pos hk, c, if_neg np, if_pos rfl, e7, er7, ea, if_pos c0, e8]
  · have er8 : (G 5 (nI a) (x1 + 1) (s_X6_next N (zuI (s_X6_next N σ) q 8 (nI (u + 1))))).2.2 2 1 - 1 = q := by rw [c1]; rfl
    unfold r_X3_readNamed
    rw [e1, if_pos hk, c, if_neg np, if_pos rfl, e7, er7, ea, if_neg c0]
    unfold u_X3_readNamed_9
    rw [e8, er8, e1, c]
end IS
