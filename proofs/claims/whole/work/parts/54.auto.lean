/-! printed by wip/whole/dec2.py -/
def f_X8_window (x1 : Int32) (x2 : Int32) (σ : zS) : Int32 := if x1 < 0 then (-2) else (if x1 < (σ.1 (f_X1_now σ) 0) then (if x2 = 0 then (f_X8_at 12 ((f_X1_now σ) + 1) x1 σ) else (if x2 = 1 then (f_X8_at 12 ((f_X1_now σ) + 2) x1 σ) else (-2))) else (-2))
def p_X8_window (x1 : Int32) (x2 : Int32) (σ : zS) : Prop := p_X1_now σ ∧ (¬ x1 < 0 → (x1 < (σ.1 (f_X1_now σ) 0) → ((¬ x2 = 0 → (x2 = 1 → p_X8_at 12 ((f_X1_now σ) + 2) x1 σ)) ∧ (x2 = 0 → p_X8_at 12 ((f_X1_now σ) + 1) x1 σ))))
set_option maxRecDepth 100000 in
set_option maxHeartbeats 1000000 in
theorem c_X8_window {nx : Nat} (x1 : Int32) (x2 : Int32) (σ : zS) (hp : p_X8_window x1 x2 σ) : zCl 2 zall nx zall nx 122 [.inr (8, 16, 0), .inl x1, .inl x2] σ (fun v σ1 => v = some (.inl (f_X8_window x1 x2 σ)) ∧ σ1 = σ) := by
  refine zmeth (cd := kX8_window) [] 1000 (Nat.le_of_ble_eq_true rfl) rfl okX8_window (Nat.le_refl _) (Nat.le_of_ble_eq_true rfl) ?_
  refine zCl.use (c_X1_now σ hp.1) (Nat.le_of_ble_eq_true rfl) ?_
  rintro _ σz ⟨rfl, hz⟩
  subst σz
  refine And.intro (fun (h1 : x1 < 0) => ?_) (fun (h1 : ¬ x1 < 0) => ?_)
  · exact And.intro rfl (And.intro rfl ⟨by rw [f_X8_window, if_pos h1] <;> rfl, rfl⟩)
  · refine And.intro (fun (h2 : x1 < (σ.1 (f_X1_now σ) 0)) => ?_) (fun (h2 : ¬ x1 < (σ.1 (f_X1_now σ) 0)) => ?_)
    · refine And.intro (fun (h3 : ¬ x2 = 0) => ?_) (fun (h3 : x2 = 0) => ?_)
      · refine And.intro (fun (h4 : ¬ x2 = 1) => ?_) (fun (h4 : x2 = 1) => ?_)
        · exact And.intro rfl (And.intro rfl ⟨by rw [f_X8_window, if_neg h1, if_pos h2, if_neg h3, if_neg h4] <;> rfl, rfl⟩)
        · refine zCl.use (c_X8_at 12 ((f_X1_now σ) + 2) x1 σ ((((hp.2 h1) h2).1 h3) h4)) (Nat.le_of_ble_eq_true rfl) ?_
          rintro _ σz ⟨rfl, hz⟩
          subst σz
          exact And.intro rfl (And.intro rfl ⟨by rw [f_X8_window, if_neg h1, if_pos h2, if_neg h3, if_pos h4] <;> rfl, rfl⟩)
      · refine zCl.use (c_X8_at 12 ((f_X1_now σ) + 1) x1 σ (((hp.2 h1) h2).2 h3)) (Nat.le_of_ble_eq_true rfl) ?_
        rintro _ σz ⟨rfl, hz⟩
        subst σz
        exact And.intro rfl (And.intro rfl ⟨by rw [f_X8_window, if_neg h1, if_pos h2, if_pos h3] <;> rfl, rfl⟩)
    · exact And.intro rfl (And.intro rfl ⟨by rw [f_X8_window, if_neg h1, if_neg h2] <;> rfl, rfl⟩)
def f_X8_register (x1 : Int32) (x2 : Int32) (σ : zS) : Int32 := if x1 < 0 then 0 else (if (σ.1 (f_X1_now σ) 0) ≤ x1 then 0 else (if (f_X8_at 12 ((f_X1_now σ) + 1) x1 σ) = (-1) then 0 else (f_X0_parameter ((f_X4_taskAt (f_X1_now σ) (f_X8_at 12 ((f_X1_now σ) + 1) x1 σ) σ) + 1) (f_X8_at 12 ((f_X1_now σ) + 2) x1 σ) x2 σ)))
def p_X8_register (x1 : Int32) (x2 : Int32) (σ : zS) : Prop := p_X1_now σ ∧ (¬ x1 < 0 → (¬ (σ.1 (f_X1_now σ) 0) ≤ x1 → (p_X8_at 12 ((f_X1_now σ) + 1) x1 σ ∧ (¬ (f_X8_at 12 ((f_X1_now σ) + 1) x1 σ) = (-1) → (p_X8_at 12 ((f_X1_now σ) + 1) x1 σ ∧ (p_X4_taskAt (f_X1_now σ) (f_X8_at 12 ((f_X1_now σ) + 1) x1 σ) σ ∧ (p_X8_at 12 ((f_X1_now σ) + 2) x1 σ ∧ p_X0_parameter ((f_X4_taskAt (f_X1_now σ) (f_X8_at 12 ((f_X1_now σ) + 1) x1 σ) σ) + 1) (f_X8_at 12 ((f_X1_now σ) + 2) x1 σ) x2 σ)))))))
set_option maxRecDepth 100000 in
set_option maxHeartbeats 1000000 in
theorem c_X8_register {nx : Nat} (x1 : Int32) (x2 : Int32) (σ : zS) (hp : p_X8_register x1 x2 σ) : zCl 3 zall nx zall nx 123 [.inr (8, 16, 0), .inl x1, .inl x2] σ (fun v σ1 => v = some (.inl (f_X8_register x1 x2 σ)) ∧ σ1 = σ) := by
  refine zmeth (cd := kX8_register) [] 1000 (Nat.le_of_ble_eq_true rfl) rfl okX8_register (Nat.le_refl _) (Nat.le_of_ble_eq_true rfl) ?_
  refine zCl.use (c_X1_now σ hp.1) (Nat.le_of_ble_eq_true rfl) ?_
  rintro _ σz ⟨rfl, hz⟩
  subst σz
  refine And.intro (fun (h1 : x1 < 0) => ?_) (fun (h1 : ¬ x1 < 0) => ?_)
  · exact And.intro rfl (And.intro rfl ⟨by rw [f_X8_register, if_pos h1] <;> rfl, rfl⟩)
  · refine And.intro (fun (h2 : (σ.1 (f_X1_now σ) 0) ≤ x1) => ?_) (fun (h2 : ¬ (σ.1 (f_X1_now σ) 0) ≤ x1) => ?_)
    · exact And.intro rfl (And.intro rfl ⟨by rw [f_X8_register, if_neg h1, if_pos h2] <;> rfl, rfl⟩)
    · refine zCl.use (c_X8_at 12 ((f_X1_now σ) + 1) x1 σ ((hp.2 h1) h2).1) (Nat.le_of_ble_eq_true rfl) ?_
      rintro _ σz ⟨rfl, hz⟩
      subst σz
      refine And.intro (fun (h3 : ¬ (f_X8_at 12 ((f_X1_now σ) + 1) x1 σ) = (-1)) => ?_) (fun (h3 : (f_X8_at 12 ((f_X1_now σ) + 1) x1 σ) = (-1)) => ?_)
      · refine zCl.use (c_X8_at 12 ((f_X1_now σ) + 1) x1 σ (((hp.2 h1) h2).2 h3).1) (Nat.le_of_ble_eq_true rfl) ?_
        rintro _ σz ⟨rfl, hz⟩
        subst σz
        refine zCl.use (c_X4_taskAt (f_X1_now σ) (f_X8_at 12 ((f_X1_now σ) + 1) x1 σ) σ (((hp.2 h1) h2).2 h3).2.1) (Nat.le_of_ble_eq_true rfl) ?_
        rintro _ σz ⟨rfl, hz⟩
        subst σz
        refine zCl.use (c_X8_at 12 ((f_X1_now σ) + 2) x1 σ (((hp.2 h1) h2).2 h3).2.2.1) (Nat.le_of_ble_eq_true rfl) ?_
        rintro _ σz ⟨rfl, hz⟩
        subst σz
        refine zCl.use (c_X0_parameter ((f_X4_taskAt (f_X1_now σ) (f_X8_at 12 ((f_X1_now σ) + 1) x1 σ) σ) + 1) (f_X8_at 12 ((f_X1_now σ) + 2) x1 σ) x2 σ (((hp.2 h1) h2).2 h3).2.2.2) (Nat.le_of_ble_eq_true rfl) ?_
        rintro _ σz ⟨rfl, hz⟩
        subst σz
        exact And.intro rfl (And.intro rfl ⟨by rw [f_X8_register, if_neg h1, if_neg h2, if_neg h3] <;> rfl, rfl⟩)
      · exact And.intro rfl (And.intro rfl ⟨by rw [f_X8_register, if_neg h1, if_neg h2, if_pos h3] <;> rfl, rfl⟩)
def f_X8_value (x1 : Int32) (x2 : Int32) (x3 : Int32) (σ : zS) : Int32 := if (f_X8_isTask x1 σ) = 0 then 0 else (f_X0_parameter ((f_X4_taskAt (f_X1_now σ) x1 σ) + 1) x2 x3 σ)
def p_X8_value (x1 : Int32) (x2 : Int32) (x3 : Int32) (σ : zS) : Prop := p_X8_isTask x1 σ ∧ (¬ (f_X8_isTask x1 σ) = 0 → (p_X1_now σ ∧ (p_X4_taskAt (f_X1_now σ) x1 σ ∧ p_X0_parameter ((f_X4_taskAt (f_X1_now σ) x1 σ) + 1) x2 x3 σ)))
set_option maxRecDepth 100000 in
set_option maxHeartbeats 1000000 in
theorem c_X8_value {nx : Nat} (x1 : Int32) (x2 : Int32) (x3 : Int32) (σ : zS) (hp : p_X8_value x1 x2 x3 σ) : zCl 3 zall nx zall nx 124 [.inr (8, 16, 0), .inl x1, .inl x2, .inl x3] σ (fun v σ1 => v = some (.inl (f_X8_value x1 x2 x3 σ)) ∧ σ1 = σ) := by
  refine zmeth (cd := kX8_value) [] 1000 (Nat.le_of_ble_eq_true rfl) rfl okX8_value (Nat.le_refl _) (Nat.le_of_ble_eq_true rfl) ?_
  refine zCl.use (c_X8_isTask x1 σ hp.1) (Nat.le_of_ble_eq_true rfl) ?_
  rintro _ σz ⟨rfl, hz⟩
  subst σz
  refine And.intro (fun (h1 : (f_X8_isTask x1 σ) = 0) => ?_) (fun (h1 : ¬ (f_X8_isTask x1 σ) = 0) => ?_)
  · exact And.intro rfl (And.intro rfl ⟨by rw [f_X8_value, if_pos h1] <;> rfl, rfl⟩)
  · refine zCl.use (c_X1_now σ (hp.2 h1).1) (Nat.le_of_ble_eq_true rfl) ?_
    rintro _ σz ⟨rfl, hz⟩
    subst σz
    refine zCl.use (c_X4_taskAt (f_X1_now σ) x1 σ (hp.2 h1).2.1) (Nat.le_of_ble_eq_true rfl) ?_
    rintro _ σz ⟨rfl, hz⟩
    subst σz
    refine zCl.use (c_X0_parameter ((f_X4_taskAt (f_X1_now σ) x1 σ) + 1) x2 x3 σ (hp.2 h1).2.2) (Nat.le_of_ble_eq_true rfl) ?_
    rintro _ σz ⟨rfl, hz⟩
    subst σz
    exact And.intro rfl (And.intro rfl ⟨by rw [f_X8_value, if_neg h1] <;> rfl, rfl⟩)
def f_X8_where (x1 : Int32) (x2 : Int32) (σ : zS) : Int32 := if (f_X8_isTask x1 σ) = 0 then (-1) else (if x2 < 1 then (-1) else (if x2 ≤ (σ.1 ((f_X4_taskAt (f_X1_now σ) x1 σ) + 1) 0) then (if (f_X4_windowOf (f_X1_now σ) x1 x2 σ) = (-1) then (-2) else (f_X4_windowOf (f_X1_now σ) x1 x2 σ)) else (-1)))
def p_X8_where (x1 : Int32) (x2 : Int32) (σ : zS) : Prop := p_X1_now σ ∧ (p_X8_isTask x1 σ ∧ (¬ (f_X8_isTask x1 σ) = 0 → (¬ x2 < 1 → (p_X4_taskAt (f_X1_now σ) x1 σ ∧ (x2 ≤ (σ.1 ((f_X4_taskAt (f_X1_now σ) x1 σ) + 1) 0) → p_X4_windowOf (f_X1_now σ) x1 x2 σ)))))
set_option maxRecDepth 100000 in
set_option maxHeartbeats 1000000 in
theorem c_X8_where {nx : Nat} (x1 : Int32) (x2 : Int32) (σ : zS) (hp : p_X8_where x1 x2 σ) : zCl 3 zall nx zall nx 125 [.inr (8, 16, 0), .inl x1, .inl x2] σ (fun v σ1 => v = some (.inl (f_X8_where x1 x2 σ)) ∧ σ1 = σ) := by
  refine zmeth (cd := kX8_where) [] 1000 (Nat.le_of_ble_eq_true rfl) rfl okX8_where (Nat.le_refl _) (Nat.le_of_ble_eq_true rfl) ?_
  refine zCl.use (c_X1_now σ hp.1) (Nat.le_of_ble_eq_true rfl) ?_
  rintro _ σz ⟨rfl, hz⟩
  subst σz
  refine zCl.use (c_X8_isTask x1 σ hp.2.1) (Nat.le_of_ble_eq_true rfl) ?_
  rintro _ σz ⟨rfl, hz⟩
  subst σz
  refine And.intro (fun (h1 : (f_X8_isTask x1 σ) = 0) => ?_) (fun (h1 : ¬ (f_X8_isTask x1 σ) = 0) => ?_)
  · exact And.intro rfl (And.intro rfl ⟨by rw [f_X8_where, if_pos h1] <;> rfl, rfl⟩)
  · refine And.intro (fun (h2 : x2 < 1) => ?_) (fun (h2 : ¬ x2 < 1) => ?_)
    · exact And.intro rfl (And.intro rfl ⟨by rw [f_X8_where, if_neg h1, if_pos h2] <;> rfl, rfl⟩)
    · refine zCl.use (c_X4_taskAt (f_X1_now σ) x1 σ ((hp.2.2 h1) h2).1) (Nat.le_of_ble_eq_true rfl) ?_
      rintro _ σz ⟨rfl, hz⟩
      subst σz
      refine And.intro (fun (h3 : x2 ≤ (σ.1 ((f_X4_taskAt (f_X1_now σ) x1 σ) + 1) 0)) => ?_) (fun (h3 : ¬ x2 ≤ (σ.1 ((f_X4_taskAt (f_X1_now σ) x1 σ) + 1) 0)) => ?_)
      · refine zCl.use (c_X4_windowOf (f_X1_now σ) x1 x2 σ (((hp.2.2 h1) h2).2 h3)) (Nat.le_of_ble_eq_true rfl) ?_
        rintro _ σz ⟨rfl, hz⟩
        subst σz
        refine And.intro (fun (h4 : ¬ (f_X4_windowOf (f_X1_now σ) x1 x2 σ) = (-1)) => ?_) (fun (h4 : (f_X4_windowOf (f_X1_now σ) x1 x2 σ) = (-1)) => ?_)
        · exact And.intro rfl (And.intro rfl ⟨by rw [f_X8_where, if_neg h1, if_neg h2, if_pos h3, if_neg h4] <;> rfl, rfl⟩)
        · exact And.intro rfl (And.intro rfl ⟨by rw [f_X8_where, if_neg h1, if_neg h2, if_pos h3, if_pos h4] <;> rfl, rfl⟩)
      · exact And.intro rfl (And.intro rfl ⟨by rw [f_X8_where, if_neg h1, if_neg h2, if_neg h3] <;> rfl, rfl⟩)
def f_X8_trap (x1 : Int32) (x2 : Int32) (σ : zS) : Int32 := if x1 < 0 then (-1) else (if 20 ≤ x1 then (-1) else (if (σ.1 (f_X1_now σ) 10) ≤ x1 then (-1) else (if x2 < 0 then (-1) else (if x2 < 5 then (f_X8_at 100 ((f_X1_now σ) + 3) ((((((σ.1 (f_X1_now σ) 10) - 1) - x1) - (((σ.1 (f_X1_now σ) 10) - 1) - x1) / 20 * 20) * 5) + x2) σ) else (-1)))))
def p_X8_trap (x1 : Int32) (x2 : Int32) (σ : zS) : Prop := p_X1_now σ ∧ (¬ x1 < 0 → (¬ 20 ≤ x1 → (¬ (σ.1 (f_X1_now σ) 10) ≤ x1 → (¬ x2 < 0 → (x2 < 5 → p_X8_at 100 ((f_X1_now σ) + 3) ((((((σ.1 (f_X1_now σ) 10) - 1) - x1) - (((σ.1 (f_X1_now σ) 10) - 1) - x1) / 20 * 20) * 5) + x2) σ)))))
set_option maxRecDepth 100000 in
set_option maxHeartbeats 1000000 in
theorem c_X8_trap {nx : Nat} (x1 : Int32) (x2 : Int32) (σ : zS) (hp : p_X8_trap x1 x2 σ) : zCl 2 zall nx zall nx 135 [.inr (8, 16, 0), .inl x1, .inl x2] σ (fun v σ1 => v = some (.inl (f_X8_trap x1 x2 σ)) ∧ σ1 = σ) := by
  refine zmeth (cd := kX8_trap) [] 1000 (Nat.le_of_ble_eq_true rfl) rfl okX8_trap (Nat.le_refl _) (Nat.le_of_ble_eq_true rfl) ?_
  refine zCl.use (c_X1_now σ hp.1) (Nat.le_of_ble_eq_true rfl) ?_
  rintro _ σz ⟨rfl, hz⟩
  subst σz
  refine And.intro (fun (h1 : x1 < 0) => ?_) (fun (h1 : ¬ x1 < 0) => ?_)
  · exact And.intro rfl (And.intro rfl ⟨by rw [f_X8_trap, if_pos h1] <;> rfl, rfl⟩)
  · refine And.intro (fun (h2 : 20 ≤ x1) => ?_) (fun (h2 : ¬ 20 ≤ x1) => ?_)
    · exact And.intro rfl (And.intro rfl ⟨by rw [f_X8_trap, if_neg h1, if_pos h2] <;> rfl, rfl⟩)
    · refine And.intro (fun (h3 : (σ.1 (f_X1_now σ) 10) ≤ x1) => ?_) (fun (h3 : ¬ (σ.1 (f_X1_now σ) 10) ≤ x1) => ?_)
      · exact And.intro rfl (And.intro rfl ⟨by rw [f_X8_trap, if_neg h1, if_neg h2, if_pos h3] <;> rfl, rfl⟩)
      · refine And.intro (fun (h4 : x2 < 0) => ?_) (fun (h4 : ¬ x2 < 0) => ?_)
        · exact And.intro rfl (And.intro rfl ⟨by rw [f_X8_trap, if_neg h1, if_neg h2, if_neg h3, if_pos h4] <;> rfl, rfl⟩)
        · refine And.intro (fun (h5 : x2 < 5) => ?_) (fun (h5 : ¬ x2 < 5) => ?_)
          · refine And.intro (by decide) ?_
            refine zCl.use (c_X8_at 100 ((f_X1_now σ) + 3) ((((((σ.1 (f_X1_now σ) 10) - 1) - x1) - (((σ.1 (f_X1_now σ) 10) - 1) - x1) / 20 * 20) * 5) + x2) σ (((((hp.2 h1) h2) h3) h4) h5)) (Nat.le_of_ble_eq_true rfl) ?_
            rintro _ σz ⟨rfl, hz⟩
            subst σz
            exact And.intro rfl (And.intro rfl ⟨by rw [f_X8_trap, if_neg h1, if_neg h2, if_neg h3, if_neg h4, if_pos h5] <;> rfl, rfl⟩)
          · exact And.intro rfl (And.intro rfl ⟨by rw [f_X8_trap, if_neg h1, if_neg h2, if_neg h3, if_neg h4, if_neg h5] <;> rfl, rfl⟩)
def u_X8_image_1 (x1 : Int32) (N : Nat) (σ : zS) : zS := s_X4_copyFrom (σ.2 357 (x1).toNatClampNeg - 1) (f_X1_now σ) N σ
def u_X8_image_2 (x1 : Int32) (N : Nat) (σ : zS) : zS := zuI (u_X8_image_1 x1 N σ) 358 (x1).toNatClampNeg (vp_nar .boolean 1)
def r_X8_image (x1 : Int32) (N : Nat) (σ : zS) : Int32 × zS := if x1 < 0 then (-1, σ) else (if 2 ≤ x1 then (-1, σ) else (if x1 < 2 then ((u_X8_image_2 x1 N σ).1 (f_X1_now (u_X8_image_2 x1 N σ)) 9, (u_X8_image_2 x1 N σ)) else (-1, σ)))
def p_X8_image (x1 : Int32) (N : Nat) (σ : zS) : Prop := ¬ x1 < 0 → (¬ 2 ≤ x1 → (x1 < 2 → (vp_in x1 2 ∧ ((σ.2 357 (x1).toNatClampNeg ≠ 0 ∧ zlay (σ.2 357 (x1).toNatClampNeg - 1) = (4, 17)) ∧ (p_X1_now σ ∧ (p_X4_copyFrom (σ.2 357 (x1).toNatClampNeg - 1) (f_X1_now σ) N σ ∧ p_X1_now (u_X8_image_2 x1 N σ)))))))
set_option maxRecDepth 100000 in
set_option maxHeartbeats 1000000 in
theorem c_X8_image {nx : Nat} (x1 : Int32) (N : Nat) (σ : zS) (hp : p_X8_image x1 N σ) : zCl 4 zall nx zall nx 137 [.inr (8, 16, 0), .inl x1] σ (fun v σ1 => v = some (.inl ((r_X8_image x1 N σ).1)) ∧ σ1 = (r_X8_image x1 N σ).2) := by
  refine zmeth (cd := kX8_image) [] 1000 (Nat.le_of_ble_eq_true rfl) rfl okX8_image (Nat.le_refl _) (Nat.le_of_ble_eq_true rfl) ?_
  refine And.intro (fun (h1 : x1 < 0) => ?_) (fun (h1 : ¬ x1 < 0) => ?_)
  · exact And.intro rfl (And.intro rfl ⟨by rw [r_X8_image, if_pos h1] <;> rfl, by rw [r_X8_image, if_pos h1] <;> rfl⟩)
  · refine And.intro (fun (h2 : 2 ≤ x1) => ?_) (fun (h2 : ¬ 2 ≤ x1) => ?_)
    · exact And.intro rfl (And.intro rfl ⟨by rw [r_X8_image, if_neg h1, if_pos h2] <;> rfl, by rw [r_X8_image, if_neg h1, if_pos h2] <;> rfl⟩)
    · refine And.intro (fun (h3 : x1 < 2) => ?_) (fun (h3 : ¬ x1 < 2) => ?_)
      · refine And.intro (((hp h1) h2) h3).1 ?_
        refine And.intro (((hp h1) h2) h3).2.1.1 (fun q904 (e4 : σ.2 357 (x1).toNatClampNeg = q904 + 1) => ?_)
        have g4 : q904 = (σ.2 357 (x1).toNatClampNeg - 1) := by omega
        subst g4
        rw [(((hp h1) h2) h3).2.1.2]
        refine zCl.use (c_X1_now σ (((hp h1) h2) h3).2.2.1) (Nat.le_of_ble_eq_true rfl) ?_
        rintro _ σz ⟨rfl, hz⟩
        subst σz
        refine zCl.use (c_X4_copyFrom (σ.2 357 (x1).toNatClampNeg - 1) (f_X1_now σ) N σ (((hp h1) h2) h3).2.2.2.1) (Nat.le_of_ble_eq_true rfl) ?_
        rintro _ σz ⟨rfl, hz⟩
        subst σz
        refine And.intro (((hp h1) h2) h3).1 ?_
        refine zCl.use (c_X1_now (u_X8_image_2 x1 N σ) (((hp h1) h2) h3).2.2.2.2) (Nat.le_of_ble_eq_true rfl) ?_
        rintro _ σz ⟨rfl, hz⟩
        subst σz
        exact And.intro rfl (And.intro rfl ⟨by rw [r_X8_image, if_neg h1, if_neg h2, if_pos h3] <;> rfl, by rw [r_X8_image, if_neg h1, if_neg h2, if_pos h3] <;> rfl⟩)
      · exact And.intro rfl (And.intro rfl ⟨by rw [r_X8_image, if_neg h1, if_neg h2, if_neg h3] <;> rfl, by rw [r_X8_image, if_neg h1, if_neg h2, if_neg h3] <;> rfl⟩)
def l_X8_leastOfCall (N : Nat) : Nat → Int32 → Int32 → Int32 → Int32 → zS → Int32
  | 0, _, _, _, _, σ => 0
  | n + 1, v1, v2, v3, v4, σ => if v2 ≤ v4 then v3 else (l_X8_leastOfCall N n v1 v2 (if ((f_X8_trapCost v4 σ) + (f_X8_at 13 393 ((v2 - v4) + 1) σ)) < v3 then ((f_X8_trapCost v4 σ) + (f_X8_at 13 393 ((v2 - v4) + 1) σ)) else v3) (v4 + 1) σ)
def q_X8_leastOfCall (N : Nat) : Nat → Int32 → Int32 → Int32 → Int32 → zS → Prop
  | 0, _, _, _, _, _ => False
  | n + 1, v1, v2, v3, v4, σ => ¬ v2 ≤ v4 → (p_X8_trapCost v4 σ ∧ (p_X8_at 13 393 ((v2 - v4) + 1) σ ∧ q_X8_leastOfCall N n v1 v2 (if ((f_X8_trapCost v4 σ) + (f_X8_at 13 393 ((v2 - v4) + 1) σ)) < v3 then ((f_X8_trapCost v4 σ) + (f_X8_at 13 393 ((v2 - v4) + 1) σ)) else v3) (v4 + 1) σ))
set_option maxRecDepth 100000 in
set_option maxHeartbeats 1000000 in
theorem w_X8_leastOfCall {nx : Nat} (N : Nat) : ∀ n : Nat, (∀ (v1 : Int32) (v2 : Int32) (v3 : Int32) (v4 : Int32) (σ : zS), q_X8_leastOfCall N n v1 v2 v3 v4 σ → zWp 3 zall nx 148 (fun v σ1 => v = some (.inl (l_X8_leastOfCall N n v1 v2 v3 v4 σ)) ∧ σ1 = σ) zall nx 23 [some (.inr (8, 16, 0)), some (.inl v1), some (.inl v2), some (.inl v3), some (.inl v4)] [] σ) := by
  intro n
  induction n with
  | zero => exact fun _ _ _ _ _ h => h.elim
  | succ n ih =>
    intro v1 v2 v3 v4 σ hp
    rw [q_X8_leastOfCall] at hp
    refine zvc_sound (cd := kX8_leastOfCall) (cs := [23]) rfl okX8_leastOfCall 1000 _ _ 23 (zseek kX8_leastOfCall 23) _ _ _ zseek_sub ?_
    refine And.intro (fun (h1 : v2 ≤ v4) => ?_) (fun (h1 : ¬ v2 ≤ v4) => ?_)
    · exact And.intro rfl (And.intro rfl ⟨by rw [l_X8_leastOfCall, if_pos h1] <;> rfl, rfl⟩)
    · refine zCl.use (c_X8_trapCost v4 σ (hp h1).1) (Nat.le_of_ble_eq_true rfl) ?_
      rintro _ σz ⟨rfl, hz⟩
      subst σz
      refine zCl.use (c_X8_at 13 393 ((v2 - v4) + 1) σ (hp h1).2.1) (Nat.le_of_ble_eq_true rfl) ?_
      rintro _ σz ⟨rfl, hz⟩
      subst σz
      refine zWp.use (ih v1 v2 (if ((f_X8_trapCost v4 σ) + (f_X8_at 13 393 ((v2 - v4) + 1) σ)) < v3 then ((f_X8_trapCost v4 σ) + (f_X8_at 13 393 ((v2 - v4) + 1) σ)) else v3) (v4 + 1) σ (hp h1).2.2) (And.intro rfl (And.intro rfl (And.intro rfl (And.intro rfl (And.intro rfl trivial))))) (fun vy σy hy => ?_)
      rw [l_X8_leastOfCall, if_neg h1]; exact hy
def f_X8_leastOfCall (x1 : Int32) (x2 : Int32) (N : Nat) (σ : zS) : Int32 := if x2 ≤ x1 then (l_X8_leastOfCall N N x1 x2 2147483647 1 σ) else (f_X8_at 13 393 (x1 + 1) σ)
def p_X8_leastOfCall (x1 : Int32) (x2 : Int32) (N : Nat) (σ : zS) : Prop := (x2 ≤ x1 → q_X8_leastOfCall N N x1 x2 2147483647 1 σ) ∧ (¬ x2 ≤ x1 → p_X8_at 13 393 (x1 + 1) σ)
set_option maxRecDepth 100000 in
set_option maxHeartbeats 1000000 in
theorem c_X8_leastOfCall {nx : Nat} (x1 : Int32) (x2 : Int32) (N : Nat) (σ : zS) (hp : p_X8_leastOfCall x1 x2 N σ) : zCl 3 zall nx zall nx 148 [.inr (8, 16, 0), .inl x1, .inl x2] σ (fun v σ1 => v = some (.inl (f_X8_leastOfCall x1 x2 N σ)) ∧ σ1 = σ) := by
  refine zmeth (cd := kX8_leastOfCall) [23] 1000 (Nat.le_of_ble_eq_true rfl) rfl okX8_leastOfCall (Nat.le_refl _) (Nat.le_of_ble_eq_true rfl) ?_
  refine And.intro (fun (h1 : x2 ≤ x1) => ?_) (fun (h1 : ¬ x2 ≤ x1) => ?_)
  · refine zWp.use ((w_X8_leastOfCall N N) x1 x2 2147483647 1 σ (hp.1 h1)) (And.intro rfl (And.intro rfl (And.intro rfl (And.intro rfl (And.intro rfl trivial))))) (fun vy σy hy => ?_)
    rw [f_X8_leastOfCall, if_pos h1]; exact hy
  · refine zCl.use (c_X8_at 13 393 (x1 + 1) σ (hp.2 h1)) (Nat.le_of_ble_eq_true rfl) ?_
    rintro _ σz ⟨rfl, hz⟩
    subst σz
    exact And.intro rfl (And.intro rfl ⟨by rw [f_X8_leastOfCall, if_neg h1] <;> rfl, rfl⟩)
def l_X8_leastOfReturn (N : Nat) : Nat → Int32 → Int32 → Int32 → Int32 → Int32 → zS → Int32
  | 0, _, _, _, _, _, σ => 0
  | n + 1, v1, v2, v3, v4, v5, σ => if v3 < v5 then v4 else (if v2 < v5 then v4 else (l_X8_leastOfReturn N n v1 v2 v3 (if ((f_X8_trapCost v5 σ) + (f_X8_at 13 393 v5 σ)) < v4 then ((f_X8_trapCost v5 σ) + (f_X8_at 13 393 v5 σ)) else v4) (v5 + 1) σ))
def q_X8_leastOfReturn (N : Nat) : Nat → Int32 → Int32 → Int32 → Int32 → Int32 → zS → Prop
  | 0, _, _, _, _, _, _ => False
  | n + 1, v1, v2, v3, v4, v5, σ => ¬ v3 < v5 → (¬ v2 < v5 → (p_X8_trapCost v5 σ ∧ (p_X8_at 13 393 v5 σ ∧ q_X8_leastOfReturn N n v1 v2 v3 (if ((f_X8_trapCost v5 σ) + (f_X8_at 13 393 v5 σ)) < v4 then ((f_X8_trapCost v5 σ) + (f_X8_at 13 393 v5 σ)) else v4) (v5 + 1) σ)))
set_option maxRecDepth 100000 in
set_option maxHeartbeats 1000000 in
theorem w_X8_leastOfReturn {nx : Nat} (N : Nat) : ∀ n : Nat, (∀ (v1 : Int32) (v2 : Int32) (v3 : Int32) (v4 : Int32) (v5 : Int32) (σ : zS), q_X8_leastOfReturn N n v1 v2 v3 v4 v5 σ → zWp 3 zall nx 149 (fun v σ1 => v = some (.inl (l_X8_leastOfReturn N n v1 v2 v3 v4 v5 σ)) ∧ σ1 = σ) zall nx 30 [some (.inr (8, 16, 0)), some (.inl v1), some (.inl v2), some (.inl v3), some (.inl v4), some (.inl v5)] [] σ) := by
  intro n
  induction n with
  | zero => exact fun _ _ _ _ _ _ h => h.elim
  | succ n ih =>
    intro v1 v2 v3 v4 v5 σ hp
    rw [q_X8_leastOfReturn] at hp
    refine zvc_sound (cd := kX8_leastOfReturn) (cs := [30]) rfl okX8_leastOfReturn 1000 _ _ 30 (zseek kX8_leastOfReturn 30) _ _ _ zseek_sub ?_
    refine And.intro (fun (h1 : v3 < v5) => ?_) (fun (h1 : ¬ v3 < v5) => ?_)
    · exact And.intro rfl (And.intro rfl ⟨by rw [l_X8_leastOfReturn, if_pos h1] <;> rfl, rfl⟩)
    · refine And.intro (fun (h2 : v2 < v5) => ?_) (fun (h2 : ¬ v2 < v5) => ?_)
      · exact And.intro rfl (And.intro rfl ⟨by rw [l_X8_leastOfReturn, if_neg h1, if_pos h2] <;> rfl, rfl⟩)
      · refine zCl.use (c_X8_trapCost v5 σ ((hp h1) h2).1) (Nat.le_of_ble_eq_true rfl) ?_
        rintro _ σz ⟨rfl, hz⟩
        subst σz
        refine zCl.use (c_X8_at 13 393 v5 σ ((hp h1) h2).2.1) (Nat.le_of_ble_eq_true rfl) ?_
        rintro _ σz ⟨rfl, hz⟩
        subst σz
        refine zWp.use (ih v1 v2 v3 (if ((f_X8_trapCost v5 σ) + (f_X8_at 13 393 v5 σ)) < v4 then ((f_X8_trapCost v5 σ) + (f_X8_at 13 393 v5 σ)) else v4) (v5 + 1) σ ((hp h1) h2).2.2) (And.intro rfl (And.intro rfl (And.intro rfl (And.intro rfl (And.intro rfl (And.intro rfl trivial)))))) (fun vy σy hy => ?_)
        rw [l_X8_leastOfReturn, if_neg h1, if_neg h2]; exact hy
def f_X8_leastOfReturn (x1 : Int32) (x2 : Int32) (x3 : Int32) (N : Nat) (σ : zS) : Int32 := if x2 = 0 then 0 else (if x1 ≤ 1 then (l_X8_leastOfReturn N N x1 x2 x3 2147483647 1 σ) else (f_X8_at 13 393 (x1 - 1) σ))
def p_X8_leastOfReturn (x1 : Int32) (x2 : Int32) (x3 : Int32) (N : Nat) (σ : zS) : Prop := ¬ x2 = 0 → ((x1 ≤ 1 → q_X8_leastOfReturn N N x1 x2 x3 2147483647 1 σ) ∧ (¬ x1 ≤ 1 → p_X8_at 13 393 (x1 - 1) σ))
set_option maxRecDepth 100000 in
set_option maxHeartbeats 1000000 in
theorem c_X8_leastOfReturn {nx : Nat} (x1 : Int32) (x2 : Int32) (x3 : Int32) (N : Nat) (σ : zS) (hp : p_X8_leastOfReturn x1 x2 x3 N σ) : zCl 3 zall nx zall nx 149 [.inr (8, 16, 0), .inl x1, .inl x2, .inl x3] σ (fun v σ1 => v = some (.inl (f_X8_leastOfReturn x1 x2 x3 N σ)) ∧ σ1 = σ) := by
  refine zmeth (cd := kX8_leastOfReturn) [30] 1000 (Nat.le_of_ble_eq_true rfl) rfl okX8_leastOfReturn (Nat.le_refl _) (Nat.le_of_ble_eq_true rfl) ?_
  refine And.intro (fun (h1 : ¬ x2 = 0) => ?_) (fun (h1 : x2 = 0) => ?_)
  · refine And.intro (fun (h2 : x1 ≤ 1) => ?_) (fun (h2 : ¬ x1 ≤ 1) => ?_)
    · refine zWp.use ((w_X8_leastOfReturn N N) x1 x2 x3 2147483647 1 σ ((hp h1).1 h2)) (And.intro rfl (And.intro rfl (And.intro rfl (And.intro rfl (And.intro rfl (And.intro rfl trivial)))))) (fun vy σy hy => ?_)
      rw [f_X8_leastOfReturn, if_neg h1, if_pos h2]; exact hy
    · refine zCl.use (c_X8_at 13 393 (x1 - 1) σ ((hp h1).2 h2)) (Nat.le_of_ble_eq_true rfl) ?_
      rintro _ σz ⟨rfl, hz⟩
      subst σz
      exact And.intro rfl (And.intro rfl ⟨by rw [f_X8_leastOfReturn, if_neg h1, if_neg h2] <;> rfl, rfl⟩)
  · exact And.intro rfl (And.intro rfl ⟨by rw [f_X8_leastOfReturn, if_pos h1] <;> rfl, rfl⟩)
def u_X9_scanWord_h0_1 (N : Nat) (v1 : Int32) (v2 : Int32) (v3 : Int32) (σ : zS) : zS := zuI σ 468 24 (-1)
def u_X9_scanWord_h0_2 (N : Nat) (v1 : Int32) (v2 : Int32) (v3 : Int32) (σ : zS) : zS := zuI σ 468 20 ((σ.1 468 20) + 1)
def u_X9_scanWord_h2_1 (N : Nat) (v1 : Int32) (v2 : Int32) (v3 : Int32) (σ : zS) : zS := zuI σ 468 24 v2
def l_X9_scanWord (N : Nat) : Nat → Nat → Int32 → Int32 → Int32 → zS → zS
  | 0, _, _, _, _, σ => σ
  | n + 1, 0, v1, v2, v3, σ => if (f_X9_isLetter (f_X9_signAt (σ.1 468 20) σ)) = 0 then (l_X9_scanWord N n 1 0 0 0 (u_X9_scanWord_h0_1 N v1 v2 v3 σ)) else (l_X9_scanWord N n 0 0 0 0 (u_X9_scanWord_h0_2 N v1 v2 v3 σ))
  | n + 1, 1, v1, v2, v3, σ => if 13 ≤ v2 then σ else (l_X9_scanWord N n 2 v1 v2 v1 σ)
  | n + 1, 2, v1, v2, v3, σ => if (σ.1 486 (v3).toNatClampNeg) = 32 then (if (f_X9_isSame v1 v3 N σ) = 0 then (l_X9_scanWord N n 1 (v3 + 1) (v2 + 1) 0 σ) else (l_X9_scanWord N n 1 (v3 + 1) (v2 + 1) 0 (u_X9_scanWord_h2_1 N v1 v2 v3 σ))) else (l_X9_scanWord N n 2 v1 v2 (v3 + 1) σ)
  | _ + 1, _, _, _, _, σ => σ
def q_X9_scanWord (N : Nat) : Nat → Nat → Int32 → Int32 → Int32 → zS → Prop
  | 0, _, _, _, _, _ => False
  | n + 1, 0, v1, v2, v3, σ => p_X9_signAt (σ.1 468 20) σ ∧ (((f_X9_isLetter (f_X9_signAt (σ.1 468 20) σ)) = 0 → q_X9_scanWord N n 1 0 0 0 (u_X9_scanWord_h0_1 N v1 v2 v3 σ)) ∧ (¬ (f_X9_isLetter (f_X9_signAt (σ.1 468 20) σ)) = 0 → q_X9_scanWord N n 0 0 0 0 (u_X9_scanWord_h0_2 N v1 v2 v3 σ)))
  | n + 1, 1, v1, v2, v3, σ => ¬ 13 ≤ v2 → q_X9_scanWord N n 2 v1 v2 v1 σ
  | n + 1, 2, v1, v2, v3, σ => vp_in v3 78 ∧ (((σ.1 486 (v3).toNatClampNeg) = 32 → (p_X9_isSame v1 v3 N σ ∧ (((f_X9_isSame v1 v3 N σ) = 0 → q_X9_scanWord N n 1 (v3 + 1) (v2 + 1) 0 σ) ∧ (¬ (f_X9_isSame v1 v3 N σ) = 0 → q_X9_scanWord N n 1 (v3 + 1) (v2 + 1) 0 (u_X9_scanWord_h2_1 N v1 v2 v3 σ))))) ∧ (¬ (σ.1 486 (v3).toNatClampNeg) = 32 → q_X9_scanWord N n 2 v1 v2 (v3 + 1) σ))
  | _ + 1, _, _, _, _, _ => False
set_option maxRecDepth 100000 in
set_option maxHeartbeats 1000000 in
theorem w_X9_scanWord {nx : Nat} (N : Nat) : ∀ n : Nat, (∀ (v1 : Int32) (v2 : Int32) (v3 : Int32) (σ : zS), q_X9_scanWord N n 0 v1 v2 v3 σ → zWp 2 zall nx 164 (fun v σ1 => v = none ∧ σ1 = l_X9_scanWord N n 0 v1 v2 v3 σ) zall nx 13 [some (.inr (9, 57, 468)), none, none, none] [] σ) ∧ (∀ (v1 : Int32) (v2 : Int32) (v3 : Int32) (σ : zS), q_X9_scanWord N n 1 v1 v2 v3 σ → zWp 2 zall nx 164 (fun v σ1 => v = none ∧ σ1 = l_X9_scanWord N n 1 v1 v2 v3 σ) zall nx 49 [some (.inr (9, 57, 468)), some (.inl v1), some (.inl v2), none] [] σ) ∧ (∀ (v1 : Int32) (v2 : Int32) (v3 : Int32) (σ : zS), q_X9_scanWord N n 2 v1 v2 v3 σ → zWp 2 zall nx 164 (fun v σ1 => v = none ∧ σ1 = l_X9_scanWord N n 2 v1 v2 v3 σ) zall nx 57 [some (.inr (9, 57, 468)), some (.inl v1), some (.inl v2), some (.inl v3)] [] σ) := by
  intro n
  induction n with
  | zero => exact ⟨fun _ _ _ _ h => h.elim, fun _ _ _ _ h => h.elim, fun _ _ _ _ h => h.elim⟩
  | succ n ih =>
    refine ⟨?_, ?_, ?_⟩
    · intro v1 v2 v3 σ hp
      rw [q_X9_scanWord] at hp
      refine zvc_sound (cd := kX9_scanWord) (cs := [13, 49, 57]) rfl okX9_scanWord 1000 _ _ 13 (zseek kX9_scanWord 13) _ _ _ zseek_sub ?_
      refine zCl.use (c_X9_signAt (σ.1 468 20) σ hp.1) (Nat.le_of_ble_eq_true rfl) ?_
      rintro _ σz ⟨rfl, hz⟩
      subst σz
      refine zCl.use (c_X9_isLetter (f_X9_signAt (σ.1 468 20) σ) σ) (Nat.le_of_ble_eq_true rfl) ?_
      rintro _ σz ⟨rfl, hz⟩
      subst σz
      refine And.intro (fun (h1 : (f_X9_isLetter (f_X9_signAt (σ.1 468 20) σ)) = 0) => ?_) (fun (h1 : ¬ (f_X9_isLetter (f_X9_signAt (σ.1 468 20) σ)) = 0) => ?_)
      · refine zWp.use (ih.2.1 0 0 0 (u_X9_scanWord_h0_1 N v1 v2 v3 σ) (hp.2.1 h1)) (And.intro rfl (And.intro rfl (And.intro rfl trivial))) (fun vy σy hy => ?_)
        rw [l_X9_scanWord, if_pos h1]; exact hy
      · refine zWp.use (ih.1 0 0 0 (u_X9_scanWord_h0_2 N v1 v2 v3 σ) (hp.2.2 h1)) (And.intro rfl trivial) (fun vy σy hy => ?_)
        rw [l_X9_scanWord, if_neg h1]; exact hy
    · intro v1 v2 v3 σ hp
      rw [q_X9_scanWord] at hp
      refine zvc_sound (cd := kX9_scanWord) (cs := [13, 49, 57]) rfl okX9_scanWord 1000 _ _ 49 (zseek kX9_scanWord 49) _ _ _ zseek_sub ?_
      refine And.intro (fun (h1 : 13 ≤ v2) => ?_) (fun (h1 : ¬ 13 ≤ v2) => ?_)
      · exact And.intro rfl (And.intro rfl ⟨rfl, by rw [l_X9_scanWord, if_pos h1] <;> rfl⟩)
      · refine zWp.use (ih.2.2 v1 v2 v1 σ (hp h1)) (And.intro rfl (And.intro rfl (And.intro rfl (And.intro rfl trivial)))) (fun vy σy hy => ?_)
        rw [l_X9_scanWord, if_neg h1]; exact hy
    · intro v1 v2 v3 σ hp
      rw [q_X9_scanWord] at hp
      refine zvc_sound (cd := kX9_scanWord) (cs := [13, 49, 57]) rfl okX9_scanWord 1000 _ _ 57 (zseek kX9_scanWord 57) _ _ _ zseek_sub ?_
      refine And.intro hp.1 ?_
      refine And.intro (fun (h1 : (σ.1 486 (v3).toNatClampNeg) = 32) => ?_) (fun (h1 : ¬ (σ.1 486 (v3).toNatClampNeg) = 32) => ?_)
      · refine zCl.use (c_X9_isSame v1 v3 N σ (hp.2.1 h1).1) (Nat.le_of_ble_eq_true rfl) ?_
        rintro _ σz ⟨rfl, hz⟩
        subst σz
        refine And.intro (fun (h2 : (f_X9_isSame v1 v3 N σ) = 0) => ?_) (fun (h2 : ¬ (f_X9_isSame v1 v3 N σ) = 0) => ?_)
        · refine zWp.use (ih.2.1 (v3 + 1) (v2 + 1) 0 σ ((hp.2.1 h1).2.1 h2)) (And.intro rfl (And.intro rfl (And.intro rfl trivial))) (fun vy σy hy => ?_)
          rw [l_X9_scanWord, if_pos h1, if_pos h2]; exact hy
        · refine zWp.use (ih.2.1 (v3 + 1) (v2 + 1) 0 (u_X9_scanWord_h2_1 N v1 v2 v3 σ) ((hp.2.1 h1).2.2 h2)) (And.intro rfl (And.intro rfl (And.intro rfl trivial))) (fun vy σy hy => ?_)
          rw [l_X9_scanWord, if_pos h1, if_neg h2]; exact hy
      · refine zWp.use (ih.2.2 v1 v2 (v3 + 1) σ (hp.2.2 h1)) (And.intro rfl (And.intro rfl (And.intro rfl (And.intro rfl trivial)))) (fun vy σy hy => ?_)
        rw [l_X9_scanWord, if_neg h1]; exact hy
def u_X9_scanWord_1 (N : Nat) (σ : zS) : zS := zuI σ 468 22 2
def u_X9_scanWord_2 (N : Nat) (σ : zS) : zS := zuI (u_X9_scanWord_1 N σ) 468 20 ((u_X9_scanWord_1 N σ).1 468 21)
def s_X9_scanWord (N : Nat) (σ : zS) : zS := l_X9_scanWord N N 0 0 0 0 (u_X9_scanWord_2 N σ)
def p_X9_scanWord (N : Nat) (σ : zS) : Prop := q_X9_scanWord N N 0 0 0 0 (u_X9_scanWord_2 N σ)
set_option maxRecDepth 100000 in
set_option maxHeartbeats 1000000 in
theorem c_X9_scanWord {nx : Nat} (N : Nat) (σ : zS) (hp : p_X9_scanWord N σ) : zCl 2 zall nx zall nx 164 [.inr (9, 57, 468)] σ (fun v σ1 => v = none ∧ σ1 = s_X9_scanWord N σ) := by
  refine zmeth (cd := kX9_scanWord) [13, 49, 57] 1000 (Nat.le_of_ble_eq_true rfl) rfl okX9_scanWord (Nat.le_refl _) (Nat.le_of_ble_eq_true rfl) ?_
  refine zWp.use ((w_X9_scanWord N N).1 0 0 0 (u_X9_scanWord_2 N σ) hp) (And.intro rfl trivial) (fun vy σy hy => ?_)
  rw [s_X9_scanWord]; exact hy
def u_X9_goOn_h0_1 (N : Nat) (v1 : Int32) (v2 : Int32) (v3 : Int32) (v4 : Int32) (v5 : Int32) (v6 : Int32) (σ : zS) : zS := zuI σ 469 (f_X9_atFrame v1 v2 1).toNatClampNeg ((σ.1 469 (f_X9_atFrame v1 v2 1).toNatClampNeg) + 1)
def u_X9_goOn_h0_2 (N : Nat) (v1 : Int32) (v2 : Int32) (v3 : Int32) (v4 : Int32) (v5 : Int32) (v6 : Int32) (σ : zS) : zS := s_X9_doStep v1 v2 (σ.1 484 ((800 * (σ.1 468 16)) + (2 * (σ.1 469 (f_X9_atFrame v1 v2 1).toNatClampNeg))).toNatClampNeg) (σ.1 484 (((800 * (σ.1 468 16)) + (2 * (σ.1 469 (f_X9_atFrame v1 v2 1).toNatClampNeg))) + 1).toNatClampNeg) (u_X9_goOn_h0_1 N v1 v2 v3 v4 v5 v6 σ)
def u_X9_goOn_h0_3 (N : Nat) (v1 : Int32) (v2 : Int32) (v3 : Int32) (v4 : Int32) (v5 : Int32) (v6 : Int32) (σ : zS) : zS := zuI (u_X9_goOn_h0_1 N v1 v2 v3 v4 v5 v6 σ) 468 41 (σ.1 484 (((800 * (σ.1 468 16)) + (2 * (σ.1 469 (f_X9_atFrame v1 v2 1).toNatClampNeg))) + 1).toNatClampNeg)
def u_X9_goOn_h0_4 (N : Nat) (v1 : Int32) (v2 : Int32) (v3 : Int32) (v4 : Int32) (v5 : Int32) (v6 : Int32) (σ : zS) : zS := (r_X9_take v1 (u_X9_goOn_h0_1 N v1 v2 v3 v4 v5 v6 σ)).2
def u_X9_goOn_h0_5 (N : Nat) (v1 : Int32) (v2 : Int32) (v3 : Int32) (v4 : Int32) (v5 : Int32) (v6 : Int32) (σ : zS) : zS := zuI (u_X9_goOn_h0_4 N v1 v2 v3 v4 v5 v6 σ) 468 42 ((r_X9_take v1 (u_X9_goOn_h0_1 N v1 v2 v3 v4 v5 v6 σ)).1)
def u_X9_goOn_h1_1 (N : Nat) (v1 : Int32) (v2 : Int32) (v3 : Int32) (v4 : Int32) (v5 : Int32) (v6 : Int32) (σ : zS) : zS := (r_X9_take v1 σ).2
def u_X9_goOn_h1_2 (N : Nat) (v1 : Int32) (v2 : Int32) (v3 : Int32) (v4 : Int32) (v5 : Int32) (v6 : Int32) (σ : zS) : zS := zuI (u_X9_goOn_h1_1 N v1 v2 v3 v4 v5 v6 σ) 492 (v6).toNatClampNeg ((r_X9_take v1 σ).1)
def l_X9_goOn (N : Nat) : Nat → Nat → Int32 → Int32 → Int32 → Int32 → Int32 → Int32 → zS → Int32 × zS
  | 0, _, _, _, _, _, _, _, σ => (0, σ)
  | n + 1, 0, v1, v2, v3, v4, v5, v6, σ => if (σ.1 484 ((800 * (σ.1 468 16)) + (2 * (σ.1 469 (f_X9_atFrame v1 v2 1).toNatClampNeg))).toNatClampNeg) = 13 then (0, (u_X9_goOn_h0_5 N v1 v2 v3 v4 v5 v6 σ)) else (if (σ.1 484 ((800 * (σ.1 468 16)) + (2 * (σ.1 469 (f_X9_atFrame v1 v2 1).toNatClampNeg))).toNatClampNeg) = 8 then (l_X9_goOn N n 1 v1 v2 ((800 * (σ.1 468 16)) + (2 * (σ.1 469 (f_X9_atFrame v1 v2 1).toNatClampNeg))) (σ.1 484 ((800 * (σ.1 468 16)) + (2 * (σ.1 469 (f_X9_atFrame v1 v2 1).toNatClampNeg))).toNatClampNeg) (σ.1 484 (((800 * (σ.1 468 16)) + (2 * (σ.1 469 (f_X9_atFrame v1 v2 1).toNatClampNeg))) + 1).toNatClampNeg) (((u_X9_goOn_h0_3 N v1 v2 v3 v4 v5 v6 σ).1 481 ((6 * ((u_X9_goOn_h0_3 N v1 v2 v3 v4 v5 v6 σ).1 468 16)) + (σ.1 484 (((800 * (σ.1 468 16)) + (2 * (σ.1 469 (f_X9_atFrame v1 v2 1).toNatClampNeg))) + 1).toNatClampNeg)).toNatClampNeg) - 1) (u_X9_goOn_h0_3 N v1 v2 v3 v4 v5 v6 σ)) else (l_X9_goOn N n 0 v1 v2 0 0 0 0 (u_X9_goOn_h0_2 N v1 v2 v3 v4 v5 v6 σ)))
  | n + 1, 1, v1, v2, v3, v4, v5, v6, σ => if v6 < 0 then (1, σ) else (l_X9_goOn N n 1 v1 v2 v3 v4 v5 (v6 + (-1)) (u_X9_goOn_h1_2 N v1 v2 v3 v4 v5 v6 σ))
  | _ + 1, _, _, _, _, _, _, _, σ => (0, σ)
def q_X9_goOn (N : Nat) : Nat → Nat → Int32 → Int32 → Int32 → Int32 → Int32 → Int32 → zS → Prop
  | 0, _, _, _, _, _, _, _, _ => False
  | n + 1, 0, v1, v2, v3, v4, v5, v6, σ => vp_in (f_X9_atFrame v1 v2 1) 14241 ∧ (vp_in ((800 * (σ.1 468 16)) + (2 * (σ.1 469 (f_X9_atFrame v1 v2 1).toNatClampNeg))) 1600 ∧ (vp_in (((800 * (σ.1 468 16)) + (2 * (σ.1 469 (f_X9_atFrame v1 v2 1).toNatClampNeg))) + 1) 1600 ∧ ((¬ (σ.1 484 ((800 * (σ.1 468 16)) + (2 * (σ.1 469 (f_X9_atFrame v1 v2 1).toNatClampNeg))).toNatClampNeg) = 13 → ((¬ (σ.1 484 ((800 * (σ.1 468 16)) + (2 * (σ.1 469 (f_X9_atFrame v1 v2 1).toNatClampNeg))).toNatClampNeg) = 8 → (p_X9_doStep v1 v2 (σ.1 484 ((800 * (σ.1 468 16)) + (2 * (σ.1 469 (f_X9_atFrame v1 v2 1).toNatClampNeg))).toNatClampNeg) (σ.1 484 (((800 * (σ.1 468 16)) + (2 * (σ.1 469 (f_X9_atFrame v1 v2 1).toNatClampNeg))) + 1).toNatClampNeg) (u_X9_goOn_h0_1 N v1 v2 v3 v4 v5 v6 σ) ∧ q_X9_goOn N n 0 v1 v2 0 0 0 0 (u_X9_goOn_h0_2 N v1 v2 v3 v4 v5 v6 σ))) ∧ ((σ.1 484 ((800 * (σ.1 468 16)) + (2 * (σ.1 469 (f_X9_atFrame v1 v2 1).toNatClampNeg))).toNatClampNeg) = 8 → (vp_in ((6 * ((u_X9_goOn_h0_3 N v1 v2 v3 v4 v5 v6 σ).1 468 16)) + (σ.1 484 (((800 * (σ.1 468 16)) + (2 * (σ.1 469 (f_X9_atFrame v1 v2 1).toNatClampNeg))) + 1).toNatClampNeg)) 12 ∧ q_X9_goOn N n 1 v1 v2 ((800 * (σ.1 468 16)) + (2 * (σ.1 469 (f_X9_atFrame v1 v2 1).toNatClampNeg))) (σ.1 484 ((800 * (σ.1 468 16)) + (2 * (σ.1 469 (f_X9_atFrame v1 v2 1).toNatClampNeg))).toNatClampNeg) (σ.1 484 (((800 * (σ.1 468 16)) + (2 * (σ.1 469 (f_X9_atFrame v1 v2 1).toNatClampNeg))) + 1).toNatClampNeg) (((u_X9_goOn_h0_3 N v1 v2 v3 v4 v5 v6 σ).1 481 ((6 * ((u_X9_goOn_h0_3 N v1 v2 v3 v4 v5 v6 σ).1 468 16)) + (σ.1 484 (((800 * (σ.1 468 16)) + (2 * (σ.1 469 (f_X9_atFrame v1 v2 1).toNatClampNeg))) + 1).toNatClampNeg)).toNatClampNeg) - 1) (u_X9_goOn_h0_3 N v1 v2 v3 v4 v5 v6 σ))))) ∧ ((σ.1 484 ((800 * (σ.1 468 16)) + (2 * (σ.1 469 (f_X9_atFrame v1 v2 1).toNatClampNeg))).toNatClampNeg) = 13 → p_X9_take v1 (u_X9_goOn_h0_1 N v1 v2 v3 v4 v5 v6 σ)))))
  | n + 1, 1, v1, v2, v3, v4, v5, v6, σ => ¬ v6 < 0 → (p_X9_take v1 σ ∧ (vp_in v6 4 ∧ q_X9_goOn N n 1 v1 v2 v3 v4 v5 (v6 + (-1)) (u_X9_goOn_h1_2 N v1 v2 v3 v4 v5 v6 σ)))
  | _ + 1, _, _, _, _, _, _, _, _ => False
set_option maxRecDepth 100000 in
set_option maxHeartbeats 1000000 in
theorem w_X9_goOn {nx : Nat} (N : Nat) : ∀ n : Nat, (∀ (v1 : Int32) (v2 : Int32) (v3 : Int32) (v4 : Int32) (v5 : Int32) (v6 : Int32) (σ : zS), q_X9_goOn N n 0 v1 v2 v3 v4 v5 v6 σ → zWp 4 zall nx 226 (fun v σ1 => v = some (.inl ((l_X9_goOn N n 0 v1 v2 v3 v4 v5 v6 σ).1)) ∧ σ1 = (l_X9_goOn N n 0 v1 v2 v3 v4 v5 v6 σ).2) zall nx 6 [some (.inr (9, 57, 468)), some (.inl v1), some (.inl v2), none, none, none, none] [] σ) ∧ (∀ (v1 : Int32) (v2 : Int32) (v3 : Int32) (v4 : Int32) (v5 : Int32) (v6 : Int32) (σ : zS), q_X9_goOn N n 1 v1 v2 v3 v4 v5 v6 σ → zWp 4 zall nx 226 (fun v σ1 => v = some (.inl ((l_X9_goOn N n 1 v1 v2 v3 v4 v5 v6 σ).1)) ∧ σ1 = (l_X9_goOn N n 1 v1 v2 v3 v4 v5 v6 σ).2) zall nx 112 [some (.inr (9, 57, 468)), some (.inl v1), some (.inl v2), some (.inl v3), some (.inl v4), some (.inl v5), some (.inl v6)] [] σ) := by
  intro n
  induction n with
  | zero => exact ⟨fun _ _ _ _ _ _ _ h => h.elim, fun _ _ _ _ _ _ _ h => h.elim⟩
  | succ n ih =>
    refine ⟨?_, ?_⟩
    · intro v1 v2 v3 v4 v5 v6 σ hp
      rw [q_X9_goOn] at hp
      refine zvc_sound (cd := kX9_goOn) (cs := [6, 112]) rfl okX9_goOn 1000 _ _ 6 (zseek kX9_goOn 6) _ _ _ zseek_sub ?_
      refine zCl.use (c_X9_atFrame v1 v2 1 σ) (Nat.le_of_ble_eq_true rfl) ?_
      rintro _ σz ⟨rfl, hz⟩
      subst σz
      refine And.intro hp.1 ?_
      refine And.intro hp.2.1 ?_
      refine And.intro hp.2.2.1 ?_
      refine zCl.use (c_X9_atFrame v1 v2 1 σ) (Nat.le_of_ble_eq_true rfl) ?_
      rintro _ σz ⟨rfl, hz⟩
      subst σz
      refine And.intro hp.1 ?_
      refine And.intro hp.1 ?_
      refine And.intro (fun (h1 : ¬ (σ.1 484 ((800 * (σ.1 468 16)) + (2 * (σ.1 469 (f_X9_atFrame v1 v2 1).toNatClampNeg))).toNatClampNeg) = 13) => ?_) (fun (h1 : (σ.1 484 ((800 * (σ.1 468 16)) + (2 * (σ.1 469 (f_X9_atFrame v1 v2 1).toNatClampNeg))).toNatClampNeg) = 13) => ?_)
      · refine And.intro (fun (h2 : ¬ (σ.1 484 ((800 * (σ.1 468 16)) + (2 * (σ.1 469 (f_X9_atFrame v1 v2 1).toNatClampNeg))).toNatClampNeg) = 8) => ?_) (fun (h2 : (σ.1 484 ((800 * (σ.1 468 16)) + (2 * (σ.1 469 (f_X9_atFrame v1 v2 1).toNatClampNeg))).toNatClampNeg) = 8) => ?_)
        · refine zCl.use (c_X9_doStep v1 v2 (σ.1 484 ((800 * (σ.1 468 16)) + (2 * (σ.1 469 (f_X9_atFrame v1 v2 1).toNatClampNeg))).toNatClampNeg) (σ.1 484 (((800 * (σ.1 468 16)) + (2 * (σ.1 469 (f_X9_atFrame v1 v2 1).toNatClampNeg))) + 1).toNatClampNeg) (u_X9_goOn_h0_1 N v1 v2 v3 v4 v5 v6 σ) ((hp.2.2.2.1 h1).1 h2).1) (Nat.le_of_ble_eq_true rfl) ?_
          rintro _ σz ⟨rfl, hz⟩
          subst σz
          refine zWp.use (ih.1 v1 v2 0 0 0 0 (u_X9_goOn_h0_2 N v1 v2 v3 v4 v5 v6 σ) ((hp.2.2.2.1 h1).1 h2).2) (And.intro rfl (And.intro rfl (And.intro rfl trivial))) (fun vy σy hy => ?_)
          rw [l_X9_goOn, if_neg h1, if_neg h2]; exact hy
        · refine And.intro ((hp.2.2.2.1 h1).2 h2).1 ?_
          refine zWp.use (ih.2 v1 v2 ((800 * (σ.1 468 16)) + (2 * (σ.1 469 (f_X9_atFrame v1 v2 1).toNatClampNeg))) (σ.1 484 ((800 * (σ.1 468 16)) + (2 * (σ.1 469 (f_X9_atFrame v1 v2 1).toNatClampNeg))).toNatClampNeg) (σ.1 484 (((800 * (σ.1 468 16)) + (2 * (σ.1 469 (f_X9_atFrame v1 v2 1).toNatClampNeg))) + 1).toNatClampNeg) (((u_X9_goOn_h0_3 N v1 v2 v3 v4 v5 v6 σ).1 481 ((6 * ((u_X9_goOn_h0_3 N v1 v2 v3 v4 v5 v6 σ).1 468 16)) + (σ.1 484 (((800 * (σ.1 468 16)) + (2 * (σ.1 469 (f_X9_atFrame v1 v2 1).toNatClampNeg))) + 1).toNatClampNeg)).toNatClampNeg) - 1) (u_X9_goOn_h0_3 N v1 v2 v3 v4 v5 v6 σ) ((hp.2.2.2.1 h1).2 h2).2) (And.intro rfl (And.intro rfl (And.intro rfl (And.intro rfl (And.intro rfl (And.intro rfl (And.intro rfl trivial))))))) (fun vy σy hy => ?_)
          rw [l_X9_goOn, if_neg h1, if_pos h2]; exact hy
      · refine zCl.use (c_X9_take v1 (u_X9_goOn_h0_1 N v1 v2 v3 v4 v5 v6 σ) (hp.2.2.2.2 h1)) (Nat.le_of_ble_eq_true rfl) ?_
        rintro _ σz ⟨rfl, hz⟩
        subst σz
        exact And.intro rfl (And.intro rfl (And.intro (Or.inl rfl) ⟨by rw [l_X9_goOn, if_pos h1] <;> rfl, by rw [l_X9_goOn, if_pos h1] <;> rfl⟩))
    · intro v1 v2 v3 v4 v5 v6 σ hp
      rw [q_X9_goOn] at hp
      refine zvc_sound (cd := kX9_goOn) (cs := [6, 112]) rfl okX9_goOn 1000 _ _ 112 (zseek kX9_goOn 112) _ _ _ zseek_sub ?_
      refine And.intro (fun (h1 : v6 < 0) => ?_) (fun (h1 : ¬ v6 < 0) => ?_)
      · exact And.intro rfl (And.intro rfl (And.intro (Or.inr rfl) ⟨by rw [l_X9_goOn, if_pos h1] <;> rfl, by rw [l_X9_goOn, if_pos h1] <;> rfl⟩))
      · refine zCl.use (c_X9_take v1 σ (hp h1).1) (Nat.le_of_ble_eq_true rfl) ?_
        rintro _ σz ⟨rfl, hz⟩
        subst σz
        refine And.intro (hp h1).2.1 ?_
        refine zWp.use (ih.2 v1 v2 v3 v4 v5 (v6 + (-1)) (u_X9_goOn_h1_2 N v1 v2 v3 v4 v5 v6 σ) (hp h1).2.2) (And.intro rfl (And.intro rfl (And.intro rfl (And.intro rfl (And.intro rfl (And.intro rfl (And.intro rfl trivial))))))) (fun vy σy hy => ?_)
        rw [l_X9_goOn, if_neg h1]; exact hy
def r_X9_goOn (x1 : Int32) (N : Nat) (σ : zS) : Int32 × zS := l_X9_goOn N N 0 x1 (f_X9_frames x1 σ) 0 0 0 0 σ
def p_X9_goOn (x1 : Int32) (N : Nat) (σ : zS) : Prop := p_X9_frames x1 σ ∧ q_X9_goOn N N 0 x1 (f_X9_frames x1 σ) 0 0 0 0 σ
set_option maxRecDepth 100000 in
set_option maxHeartbeats 1000000 in
theorem c_X9_goOn {nx : Nat} (x1 : Int32) (N : Nat) (σ : zS) (hp : p_X9_goOn x1 N σ) : zCl 4 zall nx zall nx 226 [.inr (9, 57, 468), .inl x1] σ (fun v σ1 => v = some (.inl ((r_X9_goOn x1 N σ).1)) ∧ σ1 = (r_X9_goOn x1 N σ).2) := by
  refine zmeth (cd := kX9_goOn) [6, 112] 1000 (Nat.le_of_ble_eq_true rfl) rfl okX9_goOn (Nat.le_refl _) (Nat.le_of_ble_eq_true rfl) ?_
  refine zCl.use (c_X9_frames x1 σ hp.1) (Nat.le_of_ble_eq_true rfl) ?_
  rintro _ σz ⟨rfl, hz⟩
  subst σz
  refine zWp.use ((w_X9_goOn N N).1 x1 (f_X9_frames x1 σ) 0 0 0 0 σ hp.2) (And.intro rfl (And.intro rfl (And.intro rfl trivial))) (fun vy σy hy => ?_)
  rw [r_X9_goOn]; exact hy
def u_X9_goPlain_h0_1 (N : Nat) (v1 : Int32) (v2 : Int32) (σ : zS) : zS := zuI σ 468 45 1
def u_X9_goPlain_h0_2 (N : Nat) (v1 : Int32) (v2 : Int32) (σ : zS) : zS := zuI (u_X9_goPlain_h0_1 N v1 v2 σ) 468 46 1
def u_X9_goPlain_h0_3 (N : Nat) (v1 : Int32) (v2 : Int32) (σ : zS) : zS := zuI (u_X9_goPlain_h0_2 N v1 v2 σ) 468 47 0
def u_X9_goPlain_h0_4 (N : Nat) (v1 : Int32) (v2 : Int32) (σ : zS) : zS := zuI (u_X9_goPlain_h0_3 N v1 v2 σ) 493 1 1
def u_X9_goPlain_h0_5 (N : Nat) (v1 : Int32) (v2 : Int32) (σ : zS) : zS := zuI (u_X9_goPlain_h0_4 N v1 v2 σ) 494 0 (vp_nar .boolean 1)
def u_X9_goPlain_h0_6 (N : Nat) (v1 : Int32) (v2 : Int32) (σ : zS) : zS := s_X9_enter 4 v1 N (u_X9_goPlain_h0_5 N v1 v2 σ)
def u_X9_goPlain_h0_7 (N : Nat) (v1 : Int32) (v2 : Int32) (σ : zS) : zS := zuI σ 493 (v2).toNatClampNeg 0
def u_X9_goPlain_h1_1 (N : Nat) (v1 : Int32) (v2 : Int32) (σ : zS) : zS := zuI σ 468 48 (σ.1 468 42)
def u_X9_goPlain_h1_2 (N : Nat) (v1 : Int32) (v2 : Int32) (σ : zS) : zS := (r_X9_goOn 4 N σ).2
def u_X9_goPlain_h3_1 (N : Nat) (v1 : Int32) (v2 : Int32) (σ : zS) : zS := zuI σ 494 (σ.1 468 45).toNatClampNeg (vp_nar .boolean v2)
def u_X9_goPlain_h3_2 (N : Nat) (v1 : Int32) (v2 : Int32) (σ : zS) : zS := zuI (u_X9_goPlain_h3_1 N v1 v2 σ) 468 45 (((u_X9_goPlain_h3_1 N v1 v2 σ).1 468 45) + 1)
def u_X9_goPlain_h3_3 (N : Nat) (v1 : Int32) (v2 : Int32) (σ : zS) : zS := zuI (u_X9_goPlain_h3_2 N v1 v2 σ) 469 (f_X9_atTask 4 1).toNatClampNeg (((u_X9_goPlain_h3_2 N v1 v2 σ).1 469 (f_X9_atTask 4 1).toNatClampNeg) - 1)
def u_X9_goPlain_h3_4 (N : Nat) (v1 : Int32) (v2 : Int32) (σ : zS) : zS := s_X9_put 4 ((u_X9_goPlain_h3_3 N v1 v2 σ).1 468 42) (u_X9_goPlain_h3_3 N v1 v2 σ)
def u_X9_goPlain_h3_5 (N : Nat) (v1 : Int32) (v2 : Int32) (σ : zS) : zS := s_X9_enter 4 ((u_X9_goPlain_h3_2 N v1 v2 σ).1 468 41) N (u_X9_goPlain_h3_2 N v1 v2 σ)
def u_X9_goPlain_h3_6 (N : Nat) (v1 : Int32) (v2 : Int32) (σ : zS) : zS := zuI (u_X9_goPlain_h3_5 N v1 v2 σ) 493 (f_X9_frames 4 (u_X9_goPlain_h3_5 N v1 v2 σ)).toNatClampNeg (((u_X9_goPlain_h3_5 N v1 v2 σ).1 493 (f_X9_frames 4 (u_X9_goPlain_h3_5 N v1 v2 σ)).toNatClampNeg) + 1)
def u_X9_goPlain_h3_7 (N : Nat) (v1 : Int32) (v2 : Int32) (σ : zS) : zS := zuI (u_X9_goPlain_h3_6 N v1 v2 σ) 468 46 (f_X9_more ((u_X9_goPlain_h3_6 N v1 v2 σ).1 468 46) (f_X9_frames 4 (u_X9_goPlain_h3_6 N v1 v2 σ)))
def u_X9_goPlain_h3_8 (N : Nat) (v1 : Int32) (v2 : Int32) (σ : zS) : zS := zuI (u_X9_goPlain_h3_7 N v1 v2 σ) 468 47 (((u_X9_goPlain_h3_7 N v1 v2 σ).1 468 47) + 0)
def u_X9_goPlain_h3_9 (N : Nat) (v1 : Int32) (v2 : Int32) (σ : zS) : zS := zuI (u_X9_goPlain_h3_7 N v1 v2 σ) 468 47 (((u_X9_goPlain_h3_7 N v1 v2 σ).1 468 47) + 1)
def l_X9_goPlain (N : Nat) : Nat → Nat → Int32 → Int32 → zS → Int32 × zS
  | 0, _, _, _, σ => (0, σ)
  | n + 1, 0, v1, v2, σ => if 60 < v2 then (l_X9_goPlain N n 1 v1 v2 (u_X9_goPlain_h0_6 N v1 v2 σ)) else (l_X9_goPlain N n 0 v1 (v2 + 1) (u_X9_goPlain_h0_7 N v1 v2 σ))
  | n + 1, 1, v1, v2, σ => if (f_X9_frames 4 σ) ≤ 0 then (1, (u_X9_goPlain_h1_1 N v1 v2 σ)) else (if ((u_X9_goPlain_h1_2 N v1 v2 σ).1 468 45) = 2000 then (l_X9_goPlain N n 2 v1 ((r_X9_goOn 4 N σ).1) (u_X9_goPlain_h1_2 N v1 v2 σ)) else (if ((r_X9_goOn 4 N σ).1) = 0 then (l_X9_goPlain N n 3 v1 ((r_X9_goOn 4 N σ).1) (u_X9_goPlain_h1_2 N v1 v2 σ)) else (if (f_X9_frames 4 (u_X9_goPlain_h1_2 N v1 v2 σ)) = 60 then (l_X9_goPlain N n 2 v1 ((r_X9_goOn 4 N σ).1) (u_X9_goPlain_h1_2 N v1 v2 σ)) else (l_X9_goPlain N n 3 v1 ((r_X9_goOn 4 N σ).1) (u_X9_goPlain_h1_2 N v1 v2 σ)))))
  | n + 1, 2, v1, v2, σ => (0, σ)
  | n + 1, 3, v1, v2, σ => if v2 = 0 then (if (f_X9_frames 4 (u_X9_goPlain_h3_3 N v1 v2 σ)) ≤ 0 then (l_X9_goPlain N n 4 v1 v2 (u_X9_goPlain_h3_3 N v1 v2 σ)) else (l_X9_goPlain N n 4 v1 v2 (u_X9_goPlain_h3_4 N v1 v2 σ))) else (if ((u_X9_goPlain_h3_7 N v1 v2 σ).1 468 41) = v1 then (l_X9_goPlain N n 4 v1 v2 (u_X9_goPlain_h3_9 N v1 v2 σ)) else (l_X9_goPlain N n 4 v1 v2 (u_X9_goPlain_h3_8 N v1 v2 σ)))
  | n + 1, 4, v1, v2, σ => l_X9_goPlain N n 1 v1 v2 σ
  | _ + 1, _, _, _, σ => (0, σ)
def q_X9_goPlain (N : Nat) : Nat → Nat → Int32 → Int32 → zS → Prop
  | 0, _, _, _, _ => False
  | n + 1, 0, v1, v2, σ => (60 < v2 → (p_X9_enter 4 v1 N (u_X9_goPlain_h0_5 N v1 v2 σ) ∧ q_X9_goPlain N n 1 v1 v2 (u_X9_goPlain_h0_6 N v1 v2 σ))) ∧ (¬ 60 < v2 → (vp_in v2 61 ∧ q_X9_goPlain N n 0 v1 (v2 + 1) (u_X9_goPlain_h0_7 N v1 v2 σ)))
  | n + 1, 1, v1, v2, σ => p_X9_frames 4 σ ∧ (¬ (f_X9_frames 4 σ) ≤ 0 → (p_X9_goOn 4 N σ ∧ ((((u_X9_goPlain_h1_2 N v1 v2 σ).1 468 45) = 2000 → q_X9_goPlain N n 2 v1 ((r_X9_goOn 4 N σ).1) (u_X9_goPlain_h1_2 N v1 v2 σ)) ∧ (¬ ((u_X9_goPlain_h1_2 N v1 v2 σ).1 468 45) = 2000 → ((((r_X9_goOn 4 N σ).1) = 0 → q_X9_goPlain N n 3 v1 ((r_X9_goOn 4 N σ).1) (u_X9_goPlain_h1_2 N v1 v2 σ)) ∧ (¬ ((r_X9_goOn 4 N σ).1) = 0 → (p_X9_frames 4 (u_X9_goPlain_h1_2 N v1 v2 σ) ∧ ((¬ (f_X9_frames 4 (u_X9_goPlain_h1_2 N v1 v2 σ)) = 60 → q_X9_goPlain N n 3 v1 ((r_X9_goOn 4 N σ).1) (u_X9_goPlain_h1_2 N v1 v2 σ)) ∧ ((f_X9_frames 4 (u_X9_goPlain_h1_2 N v1 v2 σ)) = 60 → q_X9_goPlain N n 2 v1 ((r_X9_goOn 4 N σ).1) (u_X9_goPlain_h1_2 N v1 v2 σ))))))))))
  | n + 1, 2, v1, v2, σ => True
  | n + 1, 3, v1, v2, σ => vp_in (σ.1 468 45) 2001 ∧ ((v2 = 0 → (vp_in (f_X9_atTask 4 1) 14241 ∧ (p_X9_frames 4 (u_X9_goPlain_h3_3 N v1 v2 σ) ∧ (((f_X9_frames 4 (u_X9_goPlain_h3_3 N v1 v2 σ)) ≤ 0 → q_X9_goPlain N n 4 v1 v2 (u_X9_goPlain_h3_3 N v1 v2 σ)) ∧ (¬ (f_X9_frames 4 (u_X9_goPlain_h3_3 N v1 v2 σ)) ≤ 0 → (p_X9_put 4 ((u_X9_goPlain_h3_3 N v1 v2 σ).1 468 42) (u_X9_goPlain_h3_3 N v1 v2 σ) ∧ q_X9_goPlain N n 4 v1 v2 (u_X9_goPlain_h3_4 N v1 v2 σ))))))) ∧ (¬ v2 = 0 → (p_X9_enter 4 ((u_X9_goPlain_h3_2 N v1 v2 σ).1 468 41) N (u_X9_goPlain_h3_2 N v1 v2 σ) ∧ (p_X9_frames 4 (u_X9_goPlain_h3_5 N v1 v2 σ) ∧ (vp_in (f_X9_frames 4 (u_X9_goPlain_h3_5 N v1 v2 σ)) 61 ∧ (p_X9_frames 4 (u_X9_goPlain_h3_6 N v1 v2 σ) ∧ ((¬ ((u_X9_goPlain_h3_7 N v1 v2 σ).1 468 41) = v1 → q_X9_goPlain N n 4 v1 v2 (u_X9_goPlain_h3_8 N v1 v2 σ)) ∧ (((u_X9_goPlain_h3_7 N v1 v2 σ).1 468 41) = v1 → q_X9_goPlain N n 4 v1 v2 (u_X9_goPlain_h3_9 N v1 v2 σ)))))))))
  | n + 1, 4, v1, v2, σ => q_X9_goPlain N n 1 v1 v2 σ
  | _ + 1, _, _, _, _ => False
set_option maxRecDepth 100000 in
set_option maxHeartbeats 1000000 in
theorem w_X9_goPlain {nx : Nat} (N : Nat) : ∀ n : Nat, (∀ (v1 : Int32) (v2 : Int32) (σ : zS), q_X9_goPlain N n 0 v1 v2 σ → zWp 5 zall nx 228 (fun v σ1 => v = some (.inl ((l_X9_goPlain N n 0 v1 v2 σ).1)) ∧ σ1 = (l_X9_goPlain N n 0 v1 v2 σ).2) zall nx 7 [some (.inr (9, 57, 468)), some (.inl v1), some (.inl v2)] [] σ) ∧ (∀ (v1 : Int32) (v2 : Int32) (σ : zS), q_X9_goPlain N n 1 v1 v2 σ → zWp 5 zall nx 228 (fun v σ1 => v = some (.inl ((l_X9_goPlain N n 1 v1 v2 σ).1)) ∧ σ1 = (l_X9_goPlain N n 1 v1 v2 σ).2) zall nx 61 [some (.inr (9, 57, 468)), some (.inl v1), some (.inl v2)] [] σ) ∧ (∀ (v1 : Int32) (v2 : Int32) (σ : zS), q_X9_goPlain N n 2 v1 v2 σ → zWp 5 zall nx 228 (fun v σ1 => v = some (.inl ((l_X9_goPlain N n 2 v1 v2 σ).1)) ∧ σ1 = (l_X9_goPlain N n 2 v1 v2 σ).2) zall nx 99 [some (.inr (9, 57, 468)), some (.inl v1), some (.inl v2)] [] σ) ∧ (∀ (v1 : Int32) (v2 : Int32) (σ : zS), q_X9_goPlain N n 3 v1 v2 σ → zWp 5 zall nx 228 (fun v σ1 => v = some (.inl ((l_X9_goPlain N n 3 v1 v2 σ).1)) ∧ σ1 = (l_X9_goPlain N n 3 v1 v2 σ).2) zall nx 101 [some (.inr (9, 57, 468)), some (.inl v1), some (.inl v2)] [] σ) ∧ (∀ (v1 : Int32) (v2 : Int32) (σ : zS), q_X9_goPlain N n 4 v1 v2 σ → zWp 5 zall nx 228 (fun v σ1 => v = some (.inl ((l_X9_goPlain N n 4 v1 v2 σ).1)) ∧ σ1 = (l_X9_goPlain N n 4 v1 v2 σ).2) zall nx 220 [some (.inr (9, 57, 468)), some (.inl v1), some (.inl v2)] [] σ) := by
  intro n
  induction n with
  | zero => exact ⟨fun _ _ _ h => h.elim, fun _ _ _ h => h.elim, fun _ _ _ h => h.elim, fun _ _ _ h => h.elim, fun _ _ _ h => h.elim⟩
  | succ n ih =>
    refine ⟨?_, ?_, ?_, ?_, ?_⟩
    · intro v1 v2 σ hp
      rw [q_X9_goPlain] at hp
      refine zvc_sound (cd := kX9_goPlain) (cs := [7, 61, 99, 101, 220]) rfl okX9_goPlain 1000 _ _ 7 (zseek kX9_goPlain 7) _ _ _ zseek_sub ?_
      refine And.intro (fun (h1 : 60 < v2) => ?_) (fun (h1 : ¬ 60 < v2) => ?_)
      · refine And.intro (vp_in_iff.mpr (by decide)) ?_
        refine And.intro (vp_in_iff.mpr (by decide)) ?_
        refine zCl.use (c_X9_enter 4 v1 N (u_X9_goPlain_h0_5 N v1 v2 σ) (hp.1 h1).1) (Nat.le_of_ble_eq_true rfl) ?_
        rintro _ σz ⟨rfl, hz⟩
        subst σz
        refine zWp.use (ih.2.1 v1 v2 (u_X9_goPlain_h0_6 N v1 v2 σ) (hp.1 h1).2) (And.intro rfl (And.intro rfl (And.intro rfl trivial))) (fun vy σy hy => ?_)
        rw [l_X9_goPlain, if_pos h1]; exact hy
      · refine And.intro (hp.2 h1).1 ?_
        refine zWp.use (ih.1 v1 (v2 + 1) (u_X9_goPlain_h0_7 N v1 v2 σ) (hp.2 h1).2) (And.intro rfl (And.intro rfl (And.intro rfl trivial))) (fun vy σy hy => ?_)
        rw [l_X9_goPlain, if_neg h1]; exact hy
    · intro v1 v2 σ hp
      rw [q_X9_goPlain] at hp
      refine zvc_sound (cd := kX9_goPlain) (cs := [7, 61, 99, 101, 220]) rfl okX9_goPlain 1000 _ _ 61 (zseek kX9_goPlain 61) _ _ _ zseek_sub ?_
      refine zCl.use (c_X9_frames 4 σ hp.1) (Nat.le_of_ble_eq_true rfl) ?_
      rintro _ σz ⟨rfl, hz⟩
      subst σz
      refine And.intro (fun (h1 : (f_X9_frames 4 σ) ≤ 0) => ?_) (fun (h1 : ¬ (f_X9_frames 4 σ) ≤ 0) => ?_)
      · exact And.intro rfl (And.intro rfl (And.intro (Or.inr rfl) ⟨by rw [l_X9_goPlain, if_pos h1] <;> rfl, by rw [l_X9_goPlain, if_pos h1] <;> rfl⟩))
      · refine zCl.use (c_X9_goOn 4 N σ (hp.2 h1).1) (Nat.le_of_ble_eq_true rfl) ?_
        rintro _ σz ⟨rfl, hz⟩
        subst σz
        refine And.intro (fun (h2 : ((u_X9_goPlain_h1_2 N v1 v2 σ).1 468 45) = 2000) => ?_) (fun (h2 : ¬ ((u_X9_goPlain_h1_2 N v1 v2 σ).1 468 45) = 2000) => ?_)
        · refine zWp.use (ih.2.2.1 v1 ((r_X9_goOn 4 N σ).1) (u_X9_goPlain_h1_2 N v1 v2 σ) ((hp.2 h1).2.1 h2)) (And.intro rfl (And.intro rfl (And.intro rfl trivial))) (fun vy σy hy => ?_)
          rw [l_X9_goPlain, if_neg h1, if_pos h2]; exact hy
        · refine And.intro (fun (h3 : ((r_X9_goOn 4 N σ).1) = 0) => ?_) (fun (h3 : ¬ ((r_X9_goOn 4 N σ).1) = 0) => ?_)
          · refine zWp.use (ih.2.2.2.1 v1 ((r_X9_goOn 4 N σ).1) (u_X9_goPlain_h1_2 N v1 v2 σ) (((hp.2 h1).2.2 h2).1 h3)) (And.intro rfl (And.intro rfl (And.intro rfl trivial))) (fun vy σy hy => ?_)
            rw [l_X9_goPlain, if_neg h1, if_neg h2, if_pos h3]; exact hy
          · refine zCl.use (c_X9_frames 4 (u_X9_goPlain_h1_2 N v1 v2 σ) (((hp.2 h1).2.2 h2).2 h3).1) (Nat.le_of_ble_eq_true rfl) ?_
            rintro _ σz ⟨rfl, hz⟩
            subst σz
            refine And.intro (fun (h4 : ¬ (f_X9_frames 4 (u_X9_goPlain_h1_2 N v1 v2 σ)) = 60) => ?_) (fun (h4 : (f_X9_frames 4 (u_X9_goPlain_h1_2 N v1 v2 σ)) = 60) => ?_)
            · refine zWp.use (ih.2.2.2.1 v1 ((r_X9_goOn 4 N σ).1) (u_X9_goPlain_h1_2 N v1 v2 σ) ((((hp.2 h1).2.2 h2).2 h3).2.1 h4)) (And.intro rfl (And.intro rfl (And.intro rfl trivial))) (fun vy σy hy => ?_)
              rw [l_X9_goPlain, if_neg h1, if_neg h2, if_neg h3, if_neg h4]; exact hy
            · refine zWp.use (ih.2.2.1 v1 ((r_X9_goOn 4 N σ).1) (u_X9_goPlain_h1_2 N v1 v2 σ) ((((hp.2 h1).2.2 h2).2 h3).2.2 h4)) (And.intro rfl (And.intro rfl (And.intro rfl trivial))) (fun vy σy hy => ?_)
              rw [l_X9_goPlain, if_neg h1, if_neg h2, if_neg h3, if_pos h4]; exact hy
    · intro v1 v2 σ _
      refine zvc_sound (cd := kX9_goPlain) (cs := [7, 61, 99, 101, 220]) rfl okX9_goPlain 1000 _ _ 99 (zseek kX9_goPlain 99) _ _ _ zseek_sub ?_
      exact And.intro rfl (And.intro rfl (And.intro (Or.inl rfl) ⟨by rw [l_X9_goPlain] <;> rfl, by rw [l_X9_goPlain] <;> rfl⟩))
    · intro v1 v2 σ hp
      rw [q_X9_goPlain] at hp
      refine zvc_sound (cd := kX9_goPlain) (cs := [7, 61, 99, 101, 220]) rfl okX9_goPlain 1000 _ _ 101 (zseek kX9_goPlain 101) _ _ _ zseek_sub ?_
      refine And.intro hp.1 ?_
      refine And.intro (fun (h1 : v2 = 0) => ?_) (fun (h1 : ¬ v2 = 0) => ?_)
      · refine zCl.use (c_X9_atTask 4 1 (u_X9_goPlain_h3_2 N v1 v2 σ)) (Nat.le_of_ble_eq_true rfl) ?_
        rintro _ σz ⟨rfl, hz⟩
        subst σz
        refine And.intro (hp.2.1 h1).1 ?_
        refine And.intro (hp.2.1 h1).1 ?_
        refine zCl.use (c_X9_frames 4 (u_X9_goPlain_h3_3 N v1 v2 σ) (hp.2.1 h1).2.1) (Nat.le_of_ble_eq_true rfl) ?_
        rintro _ σz ⟨rfl, hz⟩
        subst σz
        refine And.intro (fun (h2 : (f_X9_frames 4 (u_X9_goPlain_h3_3 N v1 v2 σ)) ≤ 0) => ?_) (fun (h2 : ¬ (f_X9_frames 4 (u_X9_goPlain_h3_3 N v1 v2 σ)) ≤ 0) => ?_)
        · refine zWp.use (ih.2.2.2.2 v1 v2 (u_X9_goPlain_h3_3 N v1 v2 σ) ((hp.2.1 h1).2.2.1 h2)) (And.intro rfl (And.intro rfl (And.intro rfl trivial))) (fun vy σy hy => ?_)
          rw [l_X9_goPlain, if_pos h1, if_pos h2]; exact hy
        · refine zCl.use (c_X9_put 4 ((u_X9_goPlain_h3_3 N v1 v2 σ).1 468 42) (u_X9_goPlain_h3_3 N v1 v2 σ) ((hp.2.1 h1).2.2.2 h2).1) (Nat.le_of_ble_eq_true rfl) ?_
          rintro _ σz ⟨rfl, hz⟩
          subst σz
          refine zWp.use (ih.2.2.2.2 v1 v2 (u_X9_goPlain_h3_4 N v1 v2 σ) ((hp.2.1 h1).2.2.2 h2).2) (And.intro rfl (And.intro rfl (And.intro rfl trivial))) (fun vy σy hy => ?_)
          rw [l_X9_goPlain, if_pos h1, if_neg h2]; exact hy
      · refine zCl.use (c_X9_enter 4 ((u_X9_goPlain_h3_2 N v1 v2 σ).1 468 41) N (u_X9_goPlain_h3_2 N v1 v2 σ) (hp.2.2 h1).1) (Nat.le_of_ble_eq_true rfl) ?_
        rintro _ σz ⟨rfl, hz⟩
        subst σz
        refine zCl.use (c_X9_frames 4 (u_X9_goPlain_h3_5 N v1 v2 σ) (hp.2.2 h1).2.1) (Nat.le_of_ble_eq_true rfl) ?_
        rintro _ σz ⟨rfl, hz⟩
        subst σz
        refine And.intro (hp.2.2 h1).2.2.1 ?_
        refine And.intro (hp.2.2 h1).2.2.1 ?_
        refine zCl.use (c_X9_frames 4 (u_X9_goPlain_h3_6 N v1 v2 σ) (hp.2.2 h1).2.2.2.1) (Nat.le_of_ble_eq_true rfl) ?_
        rintro _ σz ⟨rfl, hz⟩
        subst σz
        refine zCl.use (c_X9_more ((u_X9_goPlain_h3_6 N v1 v2 σ).1 468 46) (f_X9_frames 4 (u_X9_goPlain_h3_6 N v1 v2 σ)) (u_X9_goPlain_h3_6 N v1 v2 σ)) (Nat.le_of_ble_eq_true rfl) ?_
        rintro _ σz ⟨rfl, hz⟩
        subst σz
        refine And.intro (fun (h3 : ¬ ((u_X9_goPlain_h3_7 N v1 v2 σ).1 468 41) = v1) => ?_) (fun (h3 : ((u_X9_goPlain_h3_7 N v1 v2 σ).1 468 41) = v1) => ?_)
        · refine zWp.use (ih.2.2.2.2 v1 v2 (u_X9_goPlain_h3_8 N v1 v2 σ) ((hp.2.2 h1).2.2.2.2.1 h3)) (And.intro rfl (And.intro rfl (And.intro rfl trivial))) (fun vy σy hy => ?_)
          rw [l_X9_goPlain, if_neg h1, if_neg h3]; exact hy
        · refine zWp.use (ih.2.2.2.2 v1 v2 (u_X9_goPlain_h3_9 N v1 v2 σ) ((hp.2.2 h1).2.2.2.2.2 h3)) (And.intro rfl (And.intro rfl (And.intro rfl trivial))) (fun vy σy hy => ?_)
          rw [l_X9_goPlain, if_neg h1, if_pos h3]; exact hy
    · intro v1 v2 σ hp
      rw [q_X9_goPlain] at hp
      refine zvc_sound (cd := kX9_goPlain) (cs := [7, 61, 99, 101, 220]) rfl okX9_goPlain 1000 _ _ 220 (zseek kX9_goPlain 220) _ _ _ zseek_sub ?_
      refine zWp.use (ih.2.1 v1 v2 σ hp) (And.intro rfl (And.intro rfl (And.intro rfl trivial))) (fun vy σy hy => ?_)
      rw [l_X9_goPlain]; exact hy
def u_X9_goPlain_1 (x1 : Int32) (N : Nat) (σ : zS) : zS := s_X9_clearTask 4 N σ
def r_X9_goPlain (x1 : Int32) (N : Nat) (σ : zS) : Int32 × zS := l_X9_goPlain N N 0 x1 0 (u_X9_goPlain_1 x1 N σ)
def p_X9_goPlain (x1 : Int32) (N : Nat) (σ : zS) : Prop := p_X9_clearTask 4 N σ ∧ q_X9_goPlain N N 0 x1 0 (u_X9_goPlain_1 x1 N σ)
set_option maxRecDepth 100000 in
set_option maxHeartbeats 1000000 in
theorem c_X9_goPlain {nx : Nat} (x1 : Int32) (N : Nat) (σ : zS) (hp : p_X9_goPlain x1 N σ) : zCl 5 zall nx zall nx 228 [.inr (9, 57, 468), .inl x1] σ (fun v σ1 => v = some (.inl ((r_X9_goPlain x1 N σ).1)) ∧ σ1 = (r_X9_goPlain x1 N σ).2) := by
  refine zmeth (cd := kX9_goPlain) [7, 61, 99, 101, 220] 1000 (Nat.le_of_ble_eq_true rfl) rfl okX9_goPlain (Nat.le_refl _) (Nat.le_of_ble_eq_true rfl) ?_
  refine zCl.use (c_X9_clearTask 4 N σ hp.1) (Nat.le_of_ble_eq_true rfl) ?_
  rintro _ σz ⟨rfl, hz⟩
  subst σz
  refine zWp.use ((w_X9_goPlain N N).1 x1 0 (u_X9_goPlain_1 x1 N σ) hp.2) (And.intro rfl (And.intro rfl (And.intro rfl trivial))) (fun vy σy hy => ?_)
  rw [r_X9_goPlain]; exact hy
def u_X9_goTaskPlain_1 (x1 : Int32) (N : Nat) (σ : zS) : zS := s_X9_giveTask x1 N σ
def u_X9_goTaskPlain_2 (x1 : Int32) (N : Nat) (σ : zS) : zS := (r_X9_goPlain (f_X9_functionOf x1 (u_X9_goTaskPlain_1 x1 N σ)) N (u_X9_goTaskPlain_1 x1 N σ)).2
def r_X9_goTaskPlain (x1 : Int32) (N : Nat) (σ : zS) : Int32 × zS := ((r_X9_goPlain (f_X9_functionOf x1 (u_X9_goTaskPlain_1 x1 N σ)) N (u_X9_goTaskPlain_1 x1 N σ)).1, (u_X9_goTaskPlain_2 x1 N σ))
def p_X9_goTaskPlain (x1 : Int32) (N : Nat) (σ : zS) : Prop := p_X9_giveTask x1 N σ ∧ (p_X9_functionOf x1 (u_X9_goTaskPlain_1 x1 N σ) ∧ (p_X9_goPlain (f_X9_functionOf x1 (u_X9_goTaskPlain_1 x1 N σ)) N (u_X9_goTaskPlain_1 x1 N σ) ∧ ((((r_X9_goPlain (f_X9_functionOf x1 (u_X9_goTaskPlain_1 x1 N σ)) N (u_X9_goTaskPlain_1 x1 N σ)).1) = 0 ∨ ((r_X9_goPlain (f_X9_functionOf x1 (u_X9_goTaskPlain_1 x1 N σ)) N (u_X9_goTaskPlain_1 x1 N σ)).1) = 1))))
set_option maxRecDepth 100000 in
set_option maxHeartbeats 1000000 in
theorem c_X9_goTaskPlain {nx : Nat} (x1 : Int32) (N : Nat) (σ : zS) (hp : p_X9_goTaskPlain x1 N σ) : zCl 6 zall nx zall nx 232 [.inr (9, 57, 468), .inl x1] σ (fun v σ1 => v = some (.inl ((r_X9_goTaskPlain x1 N σ).1)) ∧ σ1 = (r_X9_goTaskPlain x1 N σ).2) := by
  refine zmeth (cd := kX9_goTaskPlain) [] 1000 (Nat.le_of_ble_eq_true rfl) rfl okX9_goTaskPlain (Nat.le_refl _) (Nat.le_of_ble_eq_true rfl) ?_
  refine zCl.use (c_X9_giveTask x1 N σ hp.1) (Nat.le_of_ble_eq_true rfl) ?_
  rintro _ σz ⟨rfl, hz⟩
  subst σz
  refine zCl.use (c_X9_functionOf x1 (u_X9_goTaskPlain_1 x1 N σ) hp.2.1) (Nat.le_of_ble_eq_true rfl) ?_
  rintro _ σz ⟨rfl, hz⟩
  subst σz
  refine zCl.use (c_X9_goPlain (f_X9_functionOf x1 (u_X9_goTaskPlain_1 x1 N σ)) N (u_X9_goTaskPlain_1 x1 N σ) hp.2.2.1) (Nat.le_of_ble_eq_true rfl) ?_
  rintro _ σz ⟨rfl, hz⟩
  subst σz
  exact And.intro rfl (And.intro rfl (And.intro hp.2.2.2 ⟨by rw [r_X9_goTaskPlain] <;> rfl, by rw [r_X9_goTaskPlain] <;> rfl⟩))
