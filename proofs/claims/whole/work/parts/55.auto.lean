/-! printed by wip/whole/dec2.py -/
def u_X9_plain_1 (x1 : Int32) (x2 : Int32) (x3 : Int32) (x4 : Int32) (x5 : Int32) (N : Nat) (σ : zS) : zS := s_X9_give x2 x3 x4 x5 σ
def u_X9_plain_2 (x1 : Int32) (x2 : Int32) (x3 : Int32) (x4 : Int32) (x5 : Int32) (N : Nat) (σ : zS) : zS := (r_X9_goPlain x1 N (u_X9_plain_1 x1 x2 x3 x4 x5 N σ)).2
def r_X9_plain (x1 : Int32) (x2 : Int32) (x3 : Int32) (x4 : Int32) (x5 : Int32) (N : Nat) (σ : zS) : Int32 × zS := if (f_X9_isFunction x1 σ) = 0 then (0, σ) else (if ((r_X9_goPlain x1 N (u_X9_plain_1 x1 x2 x3 x4 x5 N σ)).1) = 0 then (0, (u_X9_plain_2 x1 x2 x3 x4 x5 N σ)) else ((u_X9_plain_2 x1 x2 x3 x4 x5 N σ).1 468 48, (u_X9_plain_2 x1 x2 x3 x4 x5 N σ)))
def p_X9_plain (x1 : Int32) (x2 : Int32) (x3 : Int32) (x4 : Int32) (x5 : Int32) (N : Nat) (σ : zS) : Prop := p_X9_isFunction x1 σ ∧ (¬ (f_X9_isFunction x1 σ) = 0 → p_X9_goPlain x1 N (u_X9_plain_1 x1 x2 x3 x4 x5 N σ))
set_option maxRecDepth 100000 in
set_option maxHeartbeats 1000000 in
theorem c_X9_plain {nx : Nat} (x1 : Int32) (x2 : Int32) (x3 : Int32) (x4 : Int32) (x5 : Int32) (N : Nat) (σ : zS) (hp : p_X9_plain x1 x2 x3 x4 x5 N σ) : zCl 6 zall nx zall nx 233 [.inr (9, 57, 468), .inl x1, .inl x2, .inl x3, .inl x4, .inl x5] σ (fun v σ1 => v = some (.inl ((r_X9_plain x1 x2 x3 x4 x5 N σ).1)) ∧ σ1 = (r_X9_plain x1 x2 x3 x4 x5 N σ).2) := by
  refine zmeth (cd := kX9_plain) [] 1000 (Nat.le_of_ble_eq_true rfl) rfl okX9_plain (Nat.le_refl _) (Nat.le_of_ble_eq_true rfl) ?_
  refine zCl.use (c_X9_isFunction x1 σ hp.1) (Nat.le_of_ble_eq_true rfl) ?_
  rintro _ σz ⟨rfl, hz⟩
  subst σz
  refine And.intro (fun (h1 : ¬ (f_X9_isFunction x1 σ) = 0) => ?_) (fun (h1 : (f_X9_isFunction x1 σ) = 0) => ?_)
  · refine zCl.use (c_X9_give x2 x3 x4 x5 σ) (Nat.le_of_ble_eq_true rfl) ?_
    rintro _ σz ⟨rfl, hz⟩
    subst σz
    refine zCl.use (c_X9_goPlain x1 N (u_X9_plain_1 x1 x2 x3 x4 x5 N σ) (hp.2 h1)) (Nat.le_of_ble_eq_true rfl) ?_
    rintro _ σz ⟨rfl, hz⟩
    subst σz
    refine And.intro (fun (h2 : ((r_X9_goPlain x1 N (u_X9_plain_1 x1 x2 x3 x4 x5 N σ)).1) = 0) => ?_) (fun (h2 : ¬ ((r_X9_goPlain x1 N (u_X9_plain_1 x1 x2 x3 x4 x5 N σ)).1) = 0) => ?_)
    · exact And.intro rfl (And.intro rfl ⟨by rw [r_X9_plain, if_neg h1, if_pos h2] <;> rfl, by rw [r_X9_plain, if_neg h1, if_pos h2] <;> rfl⟩)
    · exact And.intro rfl (And.intro rfl ⟨by rw [r_X9_plain, if_neg h1, if_neg h2] <;> rfl, by rw [r_X9_plain, if_neg h1, if_neg h2] <;> rfl⟩)
  · exact And.intro rfl (And.intro rfl ⟨by rw [r_X9_plain, if_pos h1] <;> rfl, by rw [r_X9_plain, if_pos h1] <;> rfl⟩)
def u_X9_profile_1 (x1 : Int32) (x2 : Int32) (x3 : Int32) (x4 : Int32) (x5 : Int32) (x6 : Int32) (N : Nat) (σ : zS) : zS := s_X9_give x2 x3 x4 x5 σ
def u_X9_profile_2 (x1 : Int32) (x2 : Int32) (x3 : Int32) (x4 : Int32) (x5 : Int32) (x6 : Int32) (N : Nat) (σ : zS) : zS := (r_X9_goPlain x1 N (u_X9_profile_1 x1 x2 x3 x4 x5 x6 N σ)).2
def r_X9_profile (x1 : Int32) (x2 : Int32) (x3 : Int32) (x4 : Int32) (x5 : Int32) (x6 : Int32) (N : Nat) (σ : zS) : Int32 × zS := if (f_X9_isFunction x1 σ) = 0 then (-1, σ) else (if (f_X9_isIn x6 0 2) = 0 then (-1, σ) else (if ((r_X9_goPlain x1 N (u_X9_profile_1 x1 x2 x3 x4 x5 x6 N σ)).1) = 0 then (-1, (u_X9_profile_2 x1 x2 x3 x4 x5 x6 N σ)) else (if x6 = 0 then ((u_X9_profile_2 x1 x2 x3 x4 x5 x6 N σ).1 468 45, (u_X9_profile_2 x1 x2 x3 x4 x5 x6 N σ)) else (if x6 = 1 then ((u_X9_profile_2 x1 x2 x3 x4 x5 x6 N σ).1 468 46, (u_X9_profile_2 x1 x2 x3 x4 x5 x6 N σ)) else ((u_X9_profile_2 x1 x2 x3 x4 x5 x6 N σ).1 468 47, (u_X9_profile_2 x1 x2 x3 x4 x5 x6 N σ))))))
def p_X9_profile (x1 : Int32) (x2 : Int32) (x3 : Int32) (x4 : Int32) (x5 : Int32) (x6 : Int32) (N : Nat) (σ : zS) : Prop := p_X9_isFunction x1 σ ∧ (¬ (f_X9_isFunction x1 σ) = 0 → (¬ (f_X9_isIn x6 0 2) = 0 → p_X9_goPlain x1 N (u_X9_profile_1 x1 x2 x3 x4 x5 x6 N σ)))
set_option maxRecDepth 100000 in
set_option maxHeartbeats 1000000 in
theorem c_X9_profile {nx : Nat} (x1 : Int32) (x2 : Int32) (x3 : Int32) (x4 : Int32) (x5 : Int32) (x6 : Int32) (N : Nat) (σ : zS) (hp : p_X9_profile x1 x2 x3 x4 x5 x6 N σ) : zCl 6 zall nx zall nx 234 [.inr (9, 57, 468), .inl x1, .inl x2, .inl x3, .inl x4, .inl x5, .inl x6] σ (fun v σ1 => v = some (.inl ((r_X9_profile x1 x2 x3 x4 x5 x6 N σ).1)) ∧ σ1 = (r_X9_profile x1 x2 x3 x4 x5 x6 N σ).2) := by
  refine zmeth (cd := kX9_profile) [] 1000 (Nat.le_of_ble_eq_true rfl) rfl okX9_profile (Nat.le_refl _) (Nat.le_of_ble_eq_true rfl) ?_
  refine zCl.use (c_X9_isFunction x1 σ hp.1) (Nat.le_of_ble_eq_true rfl) ?_
  rintro _ σz ⟨rfl, hz⟩
  subst σz
  refine And.intro (fun (h1 : (f_X9_isFunction x1 σ) = 0) => ?_) (fun (h1 : ¬ (f_X9_isFunction x1 σ) = 0) => ?_)
  · exact And.intro rfl (And.intro rfl ⟨by rw [r_X9_profile, if_pos h1] <;> rfl, by rw [r_X9_profile, if_pos h1] <;> rfl⟩)
  · refine zCl.use (c_X9_isIn x6 0 2 σ) (Nat.le_of_ble_eq_true rfl) ?_
    rintro _ σz ⟨rfl, hz⟩
    subst σz
    refine And.intro (fun (h2 : ¬ (f_X9_isIn x6 0 2) = 0) => ?_) (fun (h2 : (f_X9_isIn x6 0 2) = 0) => ?_)
    · refine zCl.use (c_X9_give x2 x3 x4 x5 σ) (Nat.le_of_ble_eq_true rfl) ?_
      rintro _ σz ⟨rfl, hz⟩
      subst σz
      refine zCl.use (c_X9_goPlain x1 N (u_X9_profile_1 x1 x2 x3 x4 x5 x6 N σ) ((hp.2 h1) h2)) (Nat.le_of_ble_eq_true rfl) ?_
      rintro _ σz ⟨rfl, hz⟩
      subst σz
      refine And.intro (fun (h3 : ¬ ((r_X9_goPlain x1 N (u_X9_profile_1 x1 x2 x3 x4 x5 x6 N σ)).1) = 0) => ?_) (fun (h3 : ((r_X9_goPlain x1 N (u_X9_profile_1 x1 x2 x3 x4 x5 x6 N σ)).1) = 0) => ?_)
      · refine And.intro (fun (h4 : ¬ x6 = 0) => ?_) (fun (h4 : x6 = 0) => ?_)
        · refine And.intro (fun (h5 : ¬ x6 = 1) => ?_) (fun (h5 : x6 = 1) => ?_)
          · exact And.intro rfl (And.intro rfl ⟨by rw [r_X9_profile, if_neg h1, if_neg h2, if_neg h3, if_neg h4, if_neg h5] <;> rfl, by rw [r_X9_profile, if_neg h1, if_neg h2, if_neg h3, if_neg h4, if_neg h5] <;> rfl⟩)
          · exact And.intro rfl (And.intro rfl ⟨by rw [r_X9_profile, if_neg h1, if_neg h2, if_neg h3, if_neg h4, if_pos h5] <;> rfl, by rw [r_X9_profile, if_neg h1, if_neg h2, if_neg h3, if_neg h4, if_pos h5] <;> rfl⟩)
        · exact And.intro rfl (And.intro rfl ⟨by rw [r_X9_profile, if_neg h1, if_neg h2, if_neg h3, if_pos h4] <;> rfl, by rw [r_X9_profile, if_neg h1, if_neg h2, if_neg h3, if_pos h4] <;> rfl⟩)
      · exact And.intro rfl (And.intro rfl ⟨by rw [r_X9_profile, if_neg h1, if_neg h2, if_pos h3] <;> rfl, by rw [r_X9_profile, if_neg h1, if_neg h2, if_pos h3] <;> rfl⟩)
    · exact And.intro rfl (And.intro rfl ⟨by rw [r_X9_profile, if_neg h1, if_pos h2] <;> rfl, by rw [r_X9_profile, if_neg h1, if_pos h2] <;> rfl⟩)
def u_X9_depths_1 (x1 : Int32) (x2 : Int32) (N : Nat) (σ : zS) : zS := (r_X9_goTaskPlain x1 N σ).2
def r_X9_depths (x1 : Int32) (x2 : Int32) (N : Nat) (σ : zS) : Int32 × zS := if (f_X9_isTask x1 σ) = 0 then (-1, σ) else (if (f_X9_isIn x2 1 60) = 0 then (-1, σ) else (if ((r_X9_goTaskPlain x1 N σ).1) = 0 then (-1, (u_X9_depths_1 x1 x2 N σ)) else ((u_X9_depths_1 x1 x2 N σ).1 493 (x2).toNatClampNeg, (u_X9_depths_1 x1 x2 N σ))))
def p_X9_depths (x1 : Int32) (x2 : Int32) (N : Nat) (σ : zS) : Prop := p_X9_isTask x1 σ ∧ (¬ (f_X9_isTask x1 σ) = 0 → (¬ (f_X9_isIn x2 1 60) = 0 → (p_X9_goTaskPlain x1 N σ ∧ (¬ ((r_X9_goTaskPlain x1 N σ).1) = 0 → vp_in x2 61))))
set_option maxRecDepth 100000 in
set_option maxHeartbeats 1000000 in
theorem c_X9_depths {nx : Nat} (x1 : Int32) (x2 : Int32) (N : Nat) (σ : zS) (hp : p_X9_depths x1 x2 N σ) : zCl 7 zall nx zall nx 235 [.inr (9, 57, 468), .inl x1, .inl x2] σ (fun v σ1 => v = some (.inl ((r_X9_depths x1 x2 N σ).1)) ∧ σ1 = (r_X9_depths x1 x2 N σ).2) := by
  refine zmeth (cd := kX9_depths) [] 1000 (Nat.le_of_ble_eq_true rfl) rfl okX9_depths (Nat.le_refl _) (Nat.le_of_ble_eq_true rfl) ?_
  refine zCl.use (c_X9_isTask x1 σ hp.1) (Nat.le_of_ble_eq_true rfl) ?_
  rintro _ σz ⟨rfl, hz⟩
  subst σz
  refine And.intro (fun (h1 : (f_X9_isTask x1 σ) = 0) => ?_) (fun (h1 : ¬ (f_X9_isTask x1 σ) = 0) => ?_)
  · exact And.intro rfl (And.intro rfl ⟨by rw [r_X9_depths, if_pos h1] <;> rfl, by rw [r_X9_depths, if_pos h1] <;> rfl⟩)
  · refine zCl.use (c_X9_isIn x2 1 60 σ) (Nat.le_of_ble_eq_true rfl) ?_
    rintro _ σz ⟨rfl, hz⟩
    subst σz
    refine And.intro (fun (h2 : (f_X9_isIn x2 1 60) = 0) => ?_) (fun (h2 : ¬ (f_X9_isIn x2 1 60) = 0) => ?_)
    · exact And.intro rfl (And.intro rfl ⟨by rw [r_X9_depths, if_neg h1, if_pos h2] <;> rfl, by rw [r_X9_depths, if_neg h1, if_pos h2] <;> rfl⟩)
    · refine zCl.use (c_X9_goTaskPlain x1 N σ ((hp.2 h1) h2).1) (Nat.le_of_ble_eq_true rfl) ?_
      rintro _ σz ⟨rfl, hz⟩
      subst σz
      refine And.intro (fun (h3 : ((r_X9_goTaskPlain x1 N σ).1) = 0) => ?_) (fun (h3 : ¬ ((r_X9_goTaskPlain x1 N σ).1) = 0) => ?_)
      · exact And.intro rfl (And.intro rfl ⟨by rw [r_X9_depths, if_neg h1, if_neg h2, if_pos h3] <;> rfl, by rw [r_X9_depths, if_neg h1, if_neg h2, if_pos h3] <;> rfl⟩)
      · refine And.intro (((hp.2 h1) h2).2 h3) ?_
        exact And.intro rfl (And.intro rfl ⟨by rw [r_X9_depths, if_neg h1, if_neg h2, if_neg h3] <;> rfl, by rw [r_X9_depths, if_neg h1, if_neg h2, if_neg h3] <;> rfl⟩)
def u_X9_suits_1 (x1 : Int32) (N : Nat) (σ : zS) : zS := (r_X9_goTaskPlain x1 N σ).2
def r_X9_suits (x1 : Int32) (N : Nat) (σ : zS) : Int32 × zS := if (f_X9_isTask x1 σ) = 0 then (-1, σ) else (if ((r_X9_goTaskPlain x1 N σ).1) = 0 then (-1, (u_X9_suits_1 x1 N σ)) else (if ((u_X9_suits_1 x1 N σ).1 468 46) ≤ 12 then (f_X9_more 2 ((u_X9_suits_1 x1 N σ).1 468 46), (u_X9_suits_1 x1 N σ)) else (-1, (u_X9_suits_1 x1 N σ))))
def p_X9_suits (x1 : Int32) (N : Nat) (σ : zS) : Prop := p_X9_isTask x1 σ ∧ (¬ (f_X9_isTask x1 σ) = 0 → p_X9_goTaskPlain x1 N σ)
set_option maxRecDepth 100000 in
set_option maxHeartbeats 1000000 in
theorem c_X9_suits {nx : Nat} (x1 : Int32) (N : Nat) (σ : zS) (hp : p_X9_suits x1 N σ) : zCl 7 zall nx zall nx 236 [.inr (9, 57, 468), .inl x1] σ (fun v σ1 => v = some (.inl ((r_X9_suits x1 N σ).1)) ∧ σ1 = (r_X9_suits x1 N σ).2) := by
  refine zmeth (cd := kX9_suits) [] 1000 (Nat.le_of_ble_eq_true rfl) rfl okX9_suits (Nat.le_refl _) (Nat.le_of_ble_eq_true rfl) ?_
  refine zCl.use (c_X9_isTask x1 σ hp.1) (Nat.le_of_ble_eq_true rfl) ?_
  rintro _ σz ⟨rfl, hz⟩
  subst σz
  refine And.intro (fun (h1 : (f_X9_isTask x1 σ) = 0) => ?_) (fun (h1 : ¬ (f_X9_isTask x1 σ) = 0) => ?_)
  · exact And.intro rfl (And.intro rfl ⟨by rw [r_X9_suits, if_pos h1] <;> rfl, by rw [r_X9_suits, if_pos h1] <;> rfl⟩)
  · refine zCl.use (c_X9_goTaskPlain x1 N σ (hp.2 h1)) (Nat.le_of_ble_eq_true rfl) ?_
    rintro _ σz ⟨rfl, hz⟩
    subst σz
    refine And.intro (fun (h2 : ((r_X9_goTaskPlain x1 N σ).1) = 0) => ?_) (fun (h2 : ¬ ((r_X9_goTaskPlain x1 N σ).1) = 0) => ?_)
    · exact And.intro rfl (And.intro rfl ⟨by rw [r_X9_suits, if_neg h1, if_pos h2] <;> rfl, by rw [r_X9_suits, if_neg h1, if_pos h2] <;> rfl⟩)
    · refine And.intro (fun (h3 : ((u_X9_suits_1 x1 N σ).1 468 46) ≤ 12) => ?_) (fun (h3 : ¬ ((u_X9_suits_1 x1 N σ).1 468 46) ≤ 12) => ?_)
      · refine zCl.use (c_X9_more 2 ((u_X9_suits_1 x1 N σ).1 468 46) (u_X9_suits_1 x1 N σ)) (Nat.le_of_ble_eq_true rfl) ?_
        rintro _ σz ⟨rfl, hz⟩
        subst σz
        exact And.intro rfl (And.intro rfl ⟨by rw [r_X9_suits, if_neg h1, if_neg h2, if_pos h3] <;> rfl, by rw [r_X9_suits, if_neg h1, if_neg h2, if_pos h3] <;> rfl⟩)
      · exact And.intro rfl (And.intro rfl ⟨by rw [r_X9_suits, if_neg h1, if_neg h2, if_neg h3] <;> rfl, by rw [r_X9_suits, if_neg h1, if_neg h2, if_neg h3] <;> rfl⟩)
def u_X9_least_h0_1 (N : Nat) (v1 : Int32) (v2 : Int32) (v3 : Int32) (v4 : Int32) (v5 : Int32) (σ : zS) : zS := zuI σ 496 (v4).toNatClampNeg 0
def u_X9_least_h2_1 (N : Nat) (v1 : Int32) (v2 : Int32) (v3 : Int32) (v4 : Int32) (v5 : Int32) (σ : zS) : zS := zuI σ 495 (v5).toNatClampNeg (f_X9_returnCost v5 v2 v3 N σ)
def u_X9_least_h2_2 (N : Nat) (v1 : Int32) (v2 : Int32) (v3 : Int32) (v4 : Int32) (v5 : Int32) (σ : zS) : zS := zuI σ 495 (v5).toNatClampNeg (f_X9_callCost v5 v2 N σ)
def u_X9_least_h3_1 (N : Nat) (v1 : Int32) (v2 : Int32) (v3 : Int32) (v4 : Int32) (v5 : Int32) (σ : zS) : zS := zuI σ 496 (v5).toNatClampNeg (σ.1 495 (v5).toNatClampNeg)
def l_X9_least (N : Nat) : Nat → Nat → Int32 → Int32 → Int32 → Int32 → Int32 → zS → Int32 × zS
  | 0, _, _, _, _, _, _, σ => (0, σ)
  | n + 1, 0, v1, v2, v3, v4, v5, σ => if v2 < v4 then (l_X9_least N n 1 v1 v2 v3 ((σ.1 468 45) - 1) 0 σ) else (l_X9_least N n 0 v1 v2 v3 (v4 + 1) 0 (u_X9_least_h0_1 N v1 v2 v3 v4 v5 σ))
  | n + 1, 1, v1, v2, v3, v4, v5, σ => if v4 ≤ 0 then (σ.1 496 1, σ) else (if (σ.1 494 (v4).toNatClampNeg) = 0 then (l_X9_least N n 2 v1 v2 (v3 + 1) v4 1 σ) else (l_X9_least N n 2 v1 v2 (v3 + (-1)) v4 1 σ))
  | n + 1, 2, v1, v2, v3, v4, v5, σ => if v2 < v5 then (l_X9_least N n 3 v1 v2 v3 v4 1 σ) else (if (σ.1 494 (v4).toNatClampNeg) = 0 then (l_X9_least N n 2 v1 v2 v3 v4 (v5 + 1) (u_X9_least_h2_1 N v1 v2 v3 v4 v5 σ)) else (l_X9_least N n 2 v1 v2 v3 v4 (v5 + 1) (u_X9_least_h2_2 N v1 v2 v3 v4 v5 σ)))
  | n + 1, 3, v1, v2, v3, v4, v5, σ => if v2 < v5 then (l_X9_least N n 1 v1 v2 v3 (v4 + (-1)) 0 σ) else (l_X9_least N n 3 v1 v2 v3 v4 (v5 + 1) (u_X9_least_h3_1 N v1 v2 v3 v4 v5 σ))
  | _ + 1, _, _, _, _, _, _, σ => (0, σ)
def q_X9_least (N : Nat) : Nat → Nat → Int32 → Int32 → Int32 → Int32 → Int32 → zS → Prop
  | 0, _, _, _, _, _, _, _ => False
  | n + 1, 0, v1, v2, v3, v4, v5, σ => (v2 < v4 → q_X9_least N n 1 v1 v2 v3 ((σ.1 468 45) - 1) 0 σ) ∧ (¬ v2 < v4 → (vp_in v4 13 ∧ q_X9_least N n 0 v1 v2 v3 (v4 + 1) 0 (u_X9_least_h0_1 N v1 v2 v3 v4 v5 σ)))
  | n + 1, 1, v1, v2, v3, v4, v5, σ => ¬ v4 ≤ 0 → (vp_in v4 2001 ∧ (((σ.1 494 (v4).toNatClampNeg) = 0 → q_X9_least N n 2 v1 v2 (v3 + 1) v4 1 σ) ∧ (¬ (σ.1 494 (v4).toNatClampNeg) = 0 → q_X9_least N n 2 v1 v2 (v3 + (-1)) v4 1 σ)))
  | n + 1, 2, v1, v2, v3, v4, v5, σ => (v2 < v5 → q_X9_least N n 3 v1 v2 v3 v4 1 σ) ∧ (¬ v2 < v5 → (vp_in v4 2001 ∧ (((σ.1 494 (v4).toNatClampNeg) = 0 → (p_X9_returnCost v5 v2 v3 N σ ∧ (vp_in v5 13 ∧ q_X9_least N n 2 v1 v2 v3 v4 (v5 + 1) (u_X9_least_h2_1 N v1 v2 v3 v4 v5 σ)))) ∧ (¬ (σ.1 494 (v4).toNatClampNeg) = 0 → (p_X9_callCost v5 v2 N σ ∧ (vp_in v5 13 ∧ q_X9_least N n 2 v1 v2 v3 v4 (v5 + 1) (u_X9_least_h2_2 N v1 v2 v3 v4 v5 σ)))))))
  | n + 1, 3, v1, v2, v3, v4, v5, σ => (v2 < v5 → q_X9_least N n 1 v1 v2 v3 (v4 + (-1)) 0 σ) ∧ (¬ v2 < v5 → (vp_in v5 13 ∧ q_X9_least N n 3 v1 v2 v3 v4 (v5 + 1) (u_X9_least_h3_1 N v1 v2 v3 v4 v5 σ)))
  | _ + 1, _, _, _, _, _, _, _ => False
set_option maxRecDepth 100000 in
set_option maxHeartbeats 1000000 in
theorem w_X9_least {nx : Nat} (N : Nat) : ∀ n : Nat, (∀ (v1 : Int32) (v2 : Int32) (v3 : Int32) (v4 : Int32) (v5 : Int32) (σ : zS), q_X9_least N n 0 v1 v2 v3 v4 v5 σ → zWp 7 zall nx 237 (fun v σ1 => v = some (.inl ((l_X9_least N n 0 v1 v2 v3 v4 v5 σ).1)) ∧ σ1 = (l_X9_least N n 0 v1 v2 v3 v4 v5 σ).2) zall nx 33 [some (.inr (9, 57, 468)), some (.inl v1), some (.inl v2), some (.inl v3), some (.inl v4), none] [] σ) ∧ (∀ (v1 : Int32) (v2 : Int32) (v3 : Int32) (v4 : Int32) (v5 : Int32) (σ : zS), q_X9_least N n 1 v1 v2 v3 v4 v5 σ → zWp 7 zall nx 237 (fun v σ1 => v = some (.inl ((l_X9_least N n 1 v1 v2 v3 v4 v5 σ).1)) ∧ σ1 = (l_X9_least N n 1 v1 v2 v3 v4 v5 σ).2) zall nx 61 [some (.inr (9, 57, 468)), some (.inl v1), some (.inl v2), some (.inl v3), some (.inl v4), none] [] σ) ∧ (∀ (v1 : Int32) (v2 : Int32) (v3 : Int32) (v4 : Int32) (v5 : Int32) (σ : zS), q_X9_least N n 2 v1 v2 v3 v4 v5 σ → zWp 7 zall nx 237 (fun v σ1 => v = some (.inl ((l_X9_least N n 2 v1 v2 v3 v4 v5 σ).1)) ∧ σ1 = (l_X9_least N n 2 v1 v2 v3 v4 v5 σ).2) zall nx 87 [some (.inr (9, 57, 468)), some (.inl v1), some (.inl v2), some (.inl v3), some (.inl v4), some (.inl v5)] [] σ) ∧ (∀ (v1 : Int32) (v2 : Int32) (v3 : Int32) (v4 : Int32) (v5 : Int32) (σ : zS), q_X9_least N n 3 v1 v2 v3 v4 v5 σ → zWp 7 zall nx 237 (fun v σ1 => v = some (.inl ((l_X9_least N n 3 v1 v2 v3 v4 v5 σ).1)) ∧ σ1 = (l_X9_least N n 3 v1 v2 v3 v4 v5 σ).2) zall nx 137 [some (.inr (9, 57, 468)), some (.inl v1), some (.inl v2), some (.inl v3), some (.inl v4), some (.inl v5)] [] σ) := by
  intro n
  induction n with
  | zero => exact ⟨fun _ _ _ _ _ _ h => h.elim, fun _ _ _ _ _ _ h => h.elim, fun _ _ _ _ _ _ h => h.elim, fun _ _ _ _ _ _ h => h.elim⟩
  | succ n ih =>
    refine ⟨?_, ?_, ?_, ?_⟩
    · intro v1 v2 v3 v4 v5 σ hp
      rw [q_X9_least] at hp
      refine zvc_sound (cd := kX9_least) (cs := [33, 61, 87, 137]) rfl okX9_least 1000 _ _ 33 (zseek kX9_least 33) _ _ _ zseek_sub ?_
      refine And.intro (fun (h1 : v2 < v4) => ?_) (fun (h1 : ¬ v2 < v4) => ?_)
      · refine zWp.use (ih.2.1 v1 v2 v3 ((σ.1 468 45) - 1) 0 σ (hp.1 h1)) (And.intro rfl (And.intro rfl (And.intro rfl (And.intro rfl (And.intro rfl trivial))))) (fun vy σy hy => ?_)
        rw [l_X9_least, if_pos h1]; exact hy
      · refine And.intro (hp.2 h1).1 ?_
        refine zWp.use (ih.1 v1 v2 v3 (v4 + 1) 0 (u_X9_least_h0_1 N v1 v2 v3 v4 v5 σ) (hp.2 h1).2) (And.intro rfl (And.intro rfl (And.intro rfl (And.intro rfl (And.intro rfl trivial))))) (fun vy σy hy => ?_)
        rw [l_X9_least, if_neg h1]; exact hy
    · intro v1 v2 v3 v4 v5 σ hp
      rw [q_X9_least] at hp
      refine zvc_sound (cd := kX9_least) (cs := [33, 61, 87, 137]) rfl okX9_least 1000 _ _ 61 (zseek kX9_least 61) _ _ _ zseek_sub ?_
      refine And.intro (fun (h1 : v4 ≤ 0) => ?_) (fun (h1 : ¬ v4 ≤ 0) => ?_)
      · refine And.intro (vp_in_iff.mpr (by decide)) ?_
        exact And.intro rfl (And.intro rfl ⟨by rw [l_X9_least, if_pos h1] <;> rfl, by rw [l_X9_least, if_pos h1] <;> rfl⟩)
      · refine And.intro (hp h1).1 ?_
        refine And.intro (fun (h2 : (σ.1 494 (v4).toNatClampNeg) = 0) => ?_) (fun (h2 : ¬ (σ.1 494 (v4).toNatClampNeg) = 0) => ?_)
        · refine zWp.use (ih.2.2.1 v1 v2 (v3 + 1) v4 1 σ ((hp h1).2.1 h2)) (And.intro rfl (And.intro rfl (And.intro rfl (And.intro rfl (And.intro rfl (And.intro rfl trivial)))))) (fun vy σy hy => ?_)
          rw [l_X9_least, if_neg h1, if_pos h2]; exact hy
        · refine zWp.use (ih.2.2.1 v1 v2 (v3 + (-1)) v4 1 σ ((hp h1).2.2 h2)) (And.intro rfl (And.intro rfl (And.intro rfl (And.intro rfl (And.intro rfl (And.intro rfl trivial)))))) (fun vy σy hy => ?_)
          rw [l_X9_least, if_neg h1, if_neg h2]; exact hy
    · intro v1 v2 v3 v4 v5 σ hp
      rw [q_X9_least] at hp
      refine zvc_sound (cd := kX9_least) (cs := [33, 61, 87, 137]) rfl okX9_least 1000 _ _ 87 (zseek kX9_least 87) _ _ _ zseek_sub ?_
      refine And.intro (fun (h1 : v2 < v5) => ?_) (fun (h1 : ¬ v2 < v5) => ?_)
      · refine zWp.use (ih.2.2.2 v1 v2 v3 v4 1 σ (hp.1 h1)) (And.intro rfl (And.intro rfl (And.intro rfl (And.intro rfl (And.intro rfl (And.intro rfl trivial)))))) (fun vy σy hy => ?_)
        rw [l_X9_least, if_pos h1]; exact hy
      · refine And.intro (hp.2 h1).1 ?_
        refine And.intro (fun (h2 : (σ.1 494 (v4).toNatClampNeg) = 0) => ?_) (fun (h2 : ¬ (σ.1 494 (v4).toNatClampNeg) = 0) => ?_)
        · refine zCl.use (c_X9_returnCost v5 v2 v3 N σ ((hp.2 h1).2.1 h2).1) (Nat.le_of_ble_eq_true rfl) ?_
          rintro _ σz ⟨rfl, hz⟩
          subst σz
          refine And.intro ((hp.2 h1).2.1 h2).2.1 ?_
          refine zWp.use (ih.2.2.1 v1 v2 v3 v4 (v5 + 1) (u_X9_least_h2_1 N v1 v2 v3 v4 v5 σ) ((hp.2 h1).2.1 h2).2.2) (And.intro rfl (And.intro rfl (And.intro rfl (And.intro rfl (And.intro rfl (And.intro rfl trivial)))))) (fun vy σy hy => ?_)
          rw [l_X9_least, if_neg h1, if_pos h2]; exact hy
        · refine zCl.use (c_X9_callCost v5 v2 N σ ((hp.2 h1).2.2 h2).1) (Nat.le_of_ble_eq_true rfl) ?_
          rintro _ σz ⟨rfl, hz⟩
          subst σz
          refine And.intro ((hp.2 h1).2.2 h2).2.1 ?_
          refine zWp.use (ih.2.2.1 v1 v2 v3 v4 (v5 + 1) (u_X9_least_h2_2 N v1 v2 v3 v4 v5 σ) ((hp.2 h1).2.2 h2).2.2) (And.intro rfl (And.intro rfl (And.intro rfl (And.intro rfl (And.intro rfl (And.intro rfl trivial)))))) (fun vy σy hy => ?_)
          rw [l_X9_least, if_neg h1, if_neg h2]; exact hy
    · intro v1 v2 v3 v4 v5 σ hp
      rw [q_X9_least] at hp
      refine zvc_sound (cd := kX9_least) (cs := [33, 61, 87, 137]) rfl okX9_least 1000 _ _ 137 (zseek kX9_least 137) _ _ _ zseek_sub ?_
      refine And.intro (fun (h1 : v2 < v5) => ?_) (fun (h1 : ¬ v2 < v5) => ?_)
      · refine zWp.use (ih.2.1 v1 v2 v3 (v4 + (-1)) 0 σ (hp.1 h1)) (And.intro rfl (And.intro rfl (And.intro rfl (And.intro rfl (And.intro rfl trivial))))) (fun vy σy hy => ?_)
        rw [l_X9_least, if_pos h1]; exact hy
      · refine And.intro (hp.2 h1).1 ?_
        refine And.intro (hp.2 h1).1 ?_
        refine zWp.use (ih.2.2.2 v1 v2 v3 v4 (v5 + 1) (u_X9_least_h3_1 N v1 v2 v3 v4 v5 σ) (hp.2 h1).2) (And.intro rfl (And.intro rfl (And.intro rfl (And.intro rfl (And.intro rfl (And.intro rfl trivial)))))) (fun vy σy hy => ?_)
        rw [l_X9_least, if_neg h1]; exact hy
def u_X9_least_1 (x1 : Int32) (x2 : Int32) (N : Nat) (σ : zS) : zS := (r_X9_goTaskPlain x1 N σ).2
def r_X9_least (x1 : Int32) (x2 : Int32) (N : Nat) (σ : zS) : Int32 × zS := if (f_X9_isTask x1 σ) = 0 then (-1, σ) else (if (f_X9_isIn x2 2 12) = 0 then (-1, σ) else (if ((r_X9_goTaskPlain x1 N σ).1) = 0 then (-1, (u_X9_least_1 x1 x2 N σ)) else (l_X9_least N N 0 x1 x2 0 0 0 (u_X9_least_1 x1 x2 N σ))))
def p_X9_least (x1 : Int32) (x2 : Int32) (N : Nat) (σ : zS) : Prop := p_X9_isTask x1 σ ∧ (¬ (f_X9_isTask x1 σ) = 0 → (¬ (f_X9_isIn x2 2 12) = 0 → (p_X9_goTaskPlain x1 N σ ∧ (¬ ((r_X9_goTaskPlain x1 N σ).1) = 0 → q_X9_least N N 0 x1 x2 0 0 0 (u_X9_least_1 x1 x2 N σ)))))
set_option maxRecDepth 100000 in
set_option maxHeartbeats 1000000 in
theorem c_X9_least {nx : Nat} (x1 : Int32) (x2 : Int32) (N : Nat) (σ : zS) (hp : p_X9_least x1 x2 N σ) : zCl 7 zall nx zall nx 237 [.inr (9, 57, 468), .inl x1, .inl x2] σ (fun v σ1 => v = some (.inl ((r_X9_least x1 x2 N σ).1)) ∧ σ1 = (r_X9_least x1 x2 N σ).2) := by
  refine zmeth (cd := kX9_least) [33, 61, 87, 137] 1000 (Nat.le_of_ble_eq_true rfl) rfl okX9_least (Nat.le_refl _) (Nat.le_of_ble_eq_true rfl) ?_
  refine zCl.use (c_X9_isTask x1 σ hp.1) (Nat.le_of_ble_eq_true rfl) ?_
  rintro _ σz ⟨rfl, hz⟩
  subst σz
  refine And.intro (fun (h1 : (f_X9_isTask x1 σ) = 0) => ?_) (fun (h1 : ¬ (f_X9_isTask x1 σ) = 0) => ?_)
  · exact And.intro rfl (And.intro rfl ⟨by rw [r_X9_least, if_pos h1] <;> rfl, by rw [r_X9_least, if_pos h1] <;> rfl⟩)
  · refine zCl.use (c_X9_isIn x2 2 12 σ) (Nat.le_of_ble_eq_true rfl) ?_
    rintro _ σz ⟨rfl, hz⟩
    subst σz
    refine And.intro (fun (h2 : (f_X9_isIn x2 2 12) = 0) => ?_) (fun (h2 : ¬ (f_X9_isIn x2 2 12) = 0) => ?_)
    · exact And.intro rfl (And.intro rfl ⟨by rw [r_X9_least, if_neg h1, if_pos h2] <;> rfl, by rw [r_X9_least, if_neg h1, if_pos h2] <;> rfl⟩)
    · refine zCl.use (c_X9_goTaskPlain x1 N σ ((hp.2 h1) h2).1) (Nat.le_of_ble_eq_true rfl) ?_
      rintro _ σz ⟨rfl, hz⟩
      subst σz
      refine And.intro (fun (h3 : ¬ ((r_X9_goTaskPlain x1 N σ).1) = 0) => ?_) (fun (h3 : ((r_X9_goTaskPlain x1 N σ).1) = 0) => ?_)
      · refine zWp.use ((w_X9_least N N).1 x1 x2 0 0 0 (u_X9_least_1 x1 x2 N σ) (((hp.2 h1) h2).2 h3)) (And.intro rfl (And.intro rfl (And.intro rfl (And.intro rfl (And.intro rfl trivial))))) (fun vy σy hy => ?_)
        rw [r_X9_least, if_neg h1, if_neg h2, if_neg h3]; exact hy
      · exact And.intro rfl (And.intro rfl ⟨by rw [r_X9_least, if_neg h1, if_neg h2, if_pos h3] <;> rfl, by rw [r_X9_least, if_neg h1, if_neg h2, if_pos h3] <;> rfl⟩)
def u_X9_doReturn_1 (x1 : Int32) (N : Nat) (σ : zS) : zS := s_X9_free (σ.1 469 (f_X9_atTask x1 12).toNatClampNeg) σ
def u_X9_doReturn_2 (x1 : Int32) (N : Nat) (σ : zS) : zS := zuI (u_X9_doReturn_1 x1 N σ) 469 (f_X9_atTask x1 1).toNatClampNeg (((u_X9_doReturn_1 x1 N σ).1 469 (f_X9_atTask x1 1).toNatClampNeg) - 1)
def u_X9_doReturn_3 (x1 : Int32) (N : Nat) (σ : zS) : zS := zuI (u_X9_doReturn_2 x1 N σ) 469 (f_X9_atTask x1 2).toNatClampNeg (((u_X9_doReturn_2 x1 N σ).1 469 (f_X9_atTask x1 2).toNatClampNeg) - 1)
def u_X9_doReturn_4 (x1 : Int32) (N : Nat) (σ : zS) : zS := zuI (u_X9_doReturn_3 x1 N σ) 469 10 (σ.1 469 (f_X9_atTask x1 12).toNatClampNeg)
def u_X9_doReturn_5 (x1 : Int32) (N : Nat) (σ : zS) : zS := s_X9_put x1 ((u_X9_doReturn_4 x1 N σ).1 468 42) (u_X9_doReturn_4 x1 N σ)
def u_X9_doReturn_6 (x1 : Int32) (N : Nat) (σ : zS) : zS := zuI (u_X9_doReturn_5 x1 N σ) 469 (f_X9_atTask x1 12).toNatClampNeg (f_X9_behind (σ.1 469 (f_X9_atTask x1 12).toNatClampNeg) (-1) (u_X9_doReturn_5 x1 N σ))
def u_X9_doReturn_7 (x1 : Int32) (N : Nat) (σ : zS) : zS := zuI (u_X9_doReturn_6 x1 N σ) 469 10 (f_X9_behind (σ.1 469 (f_X9_atTask x1 12).toNatClampNeg) (-1) (u_X9_doReturn_6 x1 N σ))
def u_X9_doReturn_8 (x1 : Int32) (N : Nat) (σ : zS) : zS := s_X9_fill x1 (σ.1 469 (f_X9_atTask x1 12).toNatClampNeg) N (u_X9_doReturn_5 x1 N σ)
def u_X9_doReturn_9 (x1 : Int32) (N : Nat) (σ : zS) : zS := zuI (u_X9_doReturn_4 x1 N σ) 469 (f_X9_atTask x1 0).toNatClampNeg 2
def u_X9_doReturn_10 (x1 : Int32) (N : Nat) (σ : zS) : zS := zuI (u_X9_doReturn_9 x1 N σ) 469 (f_X9_atTask x1 11).toNatClampNeg ((u_X9_doReturn_9 x1 N σ).1 468 42)
def s_X9_doReturn (x1 : Int32) (N : Nat) (σ : zS) : zS := if (f_X9_frames x1 (u_X9_doReturn_4 x1 N σ)) = 0 then (u_X9_doReturn_10 x1 N σ) else (if (f_X9_resident x1 (u_X9_doReturn_5 x1 N σ)) = 0 then (u_X9_doReturn_8 x1 N σ) else (u_X9_doReturn_7 x1 N σ))
def p_X9_doReturn (x1 : Int32) (N : Nat) (σ : zS) : Prop := vp_in (f_X9_atTask x1 12) 14241 ∧ (p_X9_free (σ.1 469 (f_X9_atTask x1 12).toNatClampNeg) σ ∧ (vp_in (f_X9_atTask x1 1) 14241 ∧ (vp_in (f_X9_atTask x1 2) 14241 ∧ (p_X9_frames x1 (u_X9_doReturn_4 x1 N σ) ∧ ((¬ (f_X9_frames x1 (u_X9_doReturn_4 x1 N σ)) = 0 → (p_X9_put x1 ((u_X9_doReturn_4 x1 N σ).1 468 42) (u_X9_doReturn_4 x1 N σ) ∧ (p_X9_resident x1 (u_X9_doReturn_5 x1 N σ) ∧ ((¬ (f_X9_resident x1 (u_X9_doReturn_5 x1 N σ)) = 0 → (p_X9_behind (σ.1 469 (f_X9_atTask x1 12).toNatClampNeg) (-1) (u_X9_doReturn_5 x1 N σ) ∧ p_X9_behind (σ.1 469 (f_X9_atTask x1 12).toNatClampNeg) (-1) (u_X9_doReturn_6 x1 N σ))) ∧ ((f_X9_resident x1 (u_X9_doReturn_5 x1 N σ)) = 0 → p_X9_fill x1 (σ.1 469 (f_X9_atTask x1 12).toNatClampNeg) N (u_X9_doReturn_5 x1 N σ)))))) ∧ ((f_X9_frames x1 (u_X9_doReturn_4 x1 N σ)) = 0 → (vp_in (f_X9_atTask x1 0) 14241 ∧ vp_in (f_X9_atTask x1 11) 14241)))))))
set_option maxRecDepth 100000 in
set_option maxHeartbeats 1000000 in
theorem c_X9_doReturn {nx : Nat} (x1 : Int32) (N : Nat) (σ : zS) (hp : p_X9_doReturn x1 N σ) : zCl 5 zall nx zall nx 255 [.inr (9, 57, 468), .inl x1] σ (fun v σ1 => v = none ∧ σ1 = s_X9_doReturn x1 N σ) := by
  refine zmeth (cd := kX9_doReturn) [] 1000 (Nat.le_of_ble_eq_true rfl) rfl okX9_doReturn (Nat.le_refl _) (Nat.le_of_ble_eq_true rfl) ?_
  refine zCl.use (c_X9_atTask x1 12 σ) (Nat.le_of_ble_eq_true rfl) ?_
  rintro _ σz ⟨rfl, hz⟩
  subst σz
  refine And.intro hp.1 ?_
  refine zCl.use (c_X9_free (σ.1 469 (f_X9_atTask x1 12).toNatClampNeg) σ hp.2.1) (Nat.le_of_ble_eq_true rfl) ?_
  rintro _ σz ⟨rfl, hz⟩
  subst σz
  refine zCl.use (c_X9_atTask x1 1 (u_X9_doReturn_1 x1 N σ)) (Nat.le_of_ble_eq_true rfl) ?_
  rintro _ σz ⟨rfl, hz⟩
  subst σz
  refine And.intro hp.2.2.1 ?_
  refine And.intro hp.2.2.1 ?_
  refine zCl.use (c_X9_atTask x1 2 (u_X9_doReturn_2 x1 N σ)) (Nat.le_of_ble_eq_true rfl) ?_
  rintro _ σz ⟨rfl, hz⟩
  subst σz
  refine And.intro hp.2.2.2.1 ?_
  refine And.intro hp.2.2.2.1 ?_
  refine And.intro (vp_in_iff.mpr (by decide)) ?_
  refine zCl.use (c_X9_frames x1 (u_X9_doReturn_4 x1 N σ) hp.2.2.2.2.1) (Nat.le_of_ble_eq_true rfl) ?_
  rintro _ σz ⟨rfl, hz⟩
  subst σz
  refine And.intro (fun (h1 : ¬ (f_X9_frames x1 (u_X9_doReturn_4 x1 N σ)) = 0) => ?_) (fun (h1 : (f_X9_frames x1 (u_X9_doReturn_4 x1 N σ)) = 0) => ?_)
  · refine zCl.use (c_X9_put x1 ((u_X9_doReturn_4 x1 N σ).1 468 42) (u_X9_doReturn_4 x1 N σ) (hp.2.2.2.2.2.1 h1).1) (Nat.le_of_ble_eq_true rfl) ?_
    rintro _ σz ⟨rfl, hz⟩
    subst σz
    refine zCl.use (c_X9_resident x1 (u_X9_doReturn_5 x1 N σ) (hp.2.2.2.2.2.1 h1).2.1) (Nat.le_of_ble_eq_true rfl) ?_
    rintro _ σz ⟨rfl, hz⟩
    subst σz
    refine And.intro (fun (h2 : ¬ (f_X9_resident x1 (u_X9_doReturn_5 x1 N σ)) = 0) => ?_) (fun (h2 : (f_X9_resident x1 (u_X9_doReturn_5 x1 N σ)) = 0) => ?_)
    · refine zCl.use (c_X9_atTask x1 12 (u_X9_doReturn_5 x1 N σ)) (Nat.le_of_ble_eq_true rfl) ?_
      rintro _ σz ⟨rfl, hz⟩
      subst σz
      refine zCl.use (c_X9_behind (σ.1 469 (f_X9_atTask x1 12).toNatClampNeg) (-1) (u_X9_doReturn_5 x1 N σ) ((hp.2.2.2.2.2.1 h1).2.2.1 h2).1) (Nat.le_of_ble_eq_true rfl) ?_
      rintro _ σz ⟨rfl, hz⟩
      subst σz
      refine And.intro hp.1 ?_
      refine zCl.use (c_X9_behind (σ.1 469 (f_X9_atTask x1 12).toNatClampNeg) (-1) (u_X9_doReturn_6 x1 N σ) ((hp.2.2.2.2.2.1 h1).2.2.1 h2).2) (Nat.le_of_ble_eq_true rfl) ?_
      rintro _ σz ⟨rfl, hz⟩
      subst σz
      refine And.intro (vp_in_iff.mpr (by decide)) ?_
      exact And.intro rfl (And.intro rfl ⟨rfl, by rw [s_X9_doReturn, if_neg h1, if_neg h2] <;> rfl⟩)
    · refine zCl.use (c_X9_fill x1 (σ.1 469 (f_X9_atTask x1 12).toNatClampNeg) N (u_X9_doReturn_5 x1 N σ) ((hp.2.2.2.2.2.1 h1).2.2.2 h2)) (Nat.le_of_ble_eq_true rfl) ?_
      rintro _ σz ⟨rfl, hz⟩
      subst σz
      exact And.intro rfl (And.intro rfl ⟨rfl, by rw [s_X9_doReturn, if_neg h1, if_pos h2] <;> rfl⟩)
  · refine zCl.use (c_X9_atTask x1 0 (u_X9_doReturn_4 x1 N σ)) (Nat.le_of_ble_eq_true rfl) ?_
    rintro _ σz ⟨rfl, hz⟩
    subst σz
    refine And.intro (hp.2.2.2.2.2.2 h1).1 ?_
    refine zCl.use (c_X9_atTask x1 11 (u_X9_doReturn_9 x1 N σ)) (Nat.le_of_ble_eq_true rfl) ?_
    rintro _ σz ⟨rfl, hz⟩
    subst σz
    refine And.intro (hp.2.2.2.2.2.2 h1).2 ?_
    exact And.intro rfl (And.intro rfl ⟨rfl, by rw [s_X9_doReturn, if_pos h1] <;> rfl⟩)
def u_X9_goEvent_h0_1 (N : Nat) (v1 : Int32) (σ : zS) : zS := (r_X9_goOn v1 N σ).2
def u_X9_goEvent_h0_2 (N : Nat) (v1 : Int32) (σ : zS) : zS := s_X9_doReturn v1 N (u_X9_goEvent_h0_1 N v1 σ)
def u_X9_goEvent_h0_3 (N : Nat) (v1 : Int32) (σ : zS) : zS := s_X9_doCall v1 N (u_X9_goEvent_h0_1 N v1 σ)
def u_X9_goEvent_h1_1 (N : Nat) (v1 : Int32) (σ : zS) : zS := zuI σ 469 0 ((σ.1 469 0) + 1)
def u_X9_goEvent_h1_2 (N : Nat) (v1 : Int32) (σ : zS) : zS := zuI (u_X9_goEvent_h1_1 N v1 σ) 469 (f_X9_atTask v1 3).toNatClampNeg (((u_X9_goEvent_h1_1 N v1 σ).1 469 (f_X9_atTask v1 3).toNatClampNeg) + 1)
def u_X9_goEvent_h1_3 (N : Nat) (v1 : Int32) (σ : zS) : zS := zuI (u_X9_goEvent_h1_2 N v1 σ) 469 4 (((u_X9_goEvent_h1_2 N v1 σ).1 469 4) + 1)
def u_X9_goEvent_h2_1 (N : Nat) (v1 : Int32) (σ : zS) : zS := s_X9_passOn N σ
def l_X9_goEvent (N : Nat) : Nat → Nat → Int32 → zS → zS
  | 0, _, _, σ => σ
  | n + 1, 0, v1, σ => if ((r_X9_goOn v1 N σ).1) = 0 then (l_X9_goEvent N n 1 v1 (u_X9_goEvent_h0_2 N v1 σ)) else (l_X9_goEvent N n 1 v1 (u_X9_goEvent_h0_3 N v1 σ))
  | n + 1, 1, v1, σ => if (f_X9_isOver v1 (u_X9_goEvent_h1_3 N v1 σ)) = 0 then (if ((u_X9_goEvent_h1_3 N v1 σ).1 469 4) < ((u_X9_goEvent_h1_3 N v1 σ).1 469 5) then (u_X9_goEvent_h1_3 N v1 σ) else (l_X9_goEvent N n 2 v1 (u_X9_goEvent_h1_3 N v1 σ))) else (l_X9_goEvent N n 2 v1 (u_X9_goEvent_h1_3 N v1 σ))
  | n + 1, 2, v1, σ => (u_X9_goEvent_h2_1 N v1 σ)
  | _ + 1, _, _, σ => σ
def q_X9_goEvent (N : Nat) : Nat → Nat → Int32 → zS → Prop
  | 0, _, _, _ => False
  | n + 1, 0, v1, σ => p_X9_goOn v1 N σ ∧ ((((r_X9_goOn v1 N σ).1) = 0 → (p_X9_doReturn v1 N (u_X9_goEvent_h0_1 N v1 σ) ∧ q_X9_goEvent N n 1 v1 (u_X9_goEvent_h0_2 N v1 σ))) ∧ (¬ ((r_X9_goOn v1 N σ).1) = 0 → (p_X9_doCall v1 N (u_X9_goEvent_h0_1 N v1 σ) ∧ q_X9_goEvent N n 1 v1 (u_X9_goEvent_h0_3 N v1 σ))))
  | n + 1, 1, v1, σ => vp_in (f_X9_atTask v1 3) 14241 ∧ (p_X9_isOver v1 (u_X9_goEvent_h1_3 N v1 σ) ∧ ((¬ (f_X9_isOver v1 (u_X9_goEvent_h1_3 N v1 σ)) = 0 → q_X9_goEvent N n 2 v1 (u_X9_goEvent_h1_3 N v1 σ)) ∧ ((f_X9_isOver v1 (u_X9_goEvent_h1_3 N v1 σ)) = 0 → (¬ ((u_X9_goEvent_h1_3 N v1 σ).1 469 4) < ((u_X9_goEvent_h1_3 N v1 σ).1 469 5) → q_X9_goEvent N n 2 v1 (u_X9_goEvent_h1_3 N v1 σ)))))
  | n + 1, 2, v1, σ => p_X9_passOn N σ
  | _ + 1, _, _, _ => False
set_option maxRecDepth 100000 in
set_option maxHeartbeats 1000000 in
theorem w_X9_goEvent {nx : Nat} (N : Nat) : ∀ n : Nat, (∀ (v1 : Int32) (σ : zS), q_X9_goEvent N n 0 v1 σ → zWp 6 zall nx 259 (fun v σ1 => v = none ∧ σ1 = l_X9_goEvent N n 0 v1 σ) zall nx 36 [some (.inr (9, 57, 468)), some (.inl v1)] [] σ) ∧ (∀ (v1 : Int32) (σ : zS), q_X9_goEvent N n 1 v1 σ → zWp 6 zall nx 259 (fun v σ1 => v = none ∧ σ1 = l_X9_goEvent N n 1 v1 σ) zall nx 57 [some (.inr (9, 57, 468)), some (.inl v1)] [] σ) ∧ (∀ (v1 : Int32) (σ : zS), q_X9_goEvent N n 2 v1 σ → zWp 6 zall nx 259 (fun v σ1 => v = none ∧ σ1 = l_X9_goEvent N n 2 v1 σ) zall nx 114 [some (.inr (9, 57, 468)), some (.inl v1)] [] σ) := by
  intro n
  induction n with
  | zero => exact ⟨fun _ _ h => h.elim, fun _ _ h => h.elim, fun _ _ h => h.elim⟩
  | succ n ih =>
    refine ⟨?_, ?_, ?_⟩
    · intro v1 σ hp
      rw [q_X9_goEvent] at hp
      refine zvc_sound (cd := kX9_goEvent) (cs := [36, 57, 114]) rfl okX9_goEvent 1000 _ _ 36 (zseek kX9_goEvent 36) _ _ _ zseek_sub ?_
      refine zCl.use (c_X9_goOn v1 N σ hp.1) (Nat.le_of_ble_eq_true rfl) ?_
      rintro _ σz ⟨rfl, hz⟩
      subst σz
      refine And.intro (fun (h1 : ((r_X9_goOn v1 N σ).1) = 0) => ?_) (fun (h1 : ¬ ((r_X9_goOn v1 N σ).1) = 0) => ?_)
      · refine zCl.use (c_X9_doReturn v1 N (u_X9_goEvent_h0_1 N v1 σ) (hp.2.1 h1).1) (Nat.le_of_ble_eq_true rfl) ?_
        rintro _ σz ⟨rfl, hz⟩
        subst σz
        refine zWp.use (ih.2.1 v1 (u_X9_goEvent_h0_2 N v1 σ) (hp.2.1 h1).2) (And.intro rfl (And.intro rfl trivial)) (fun vy σy hy => ?_)
        rw [l_X9_goEvent, if_pos h1]; exact hy
      · refine zCl.use (c_X9_doCall v1 N (u_X9_goEvent_h0_1 N v1 σ) (hp.2.2 h1).1) (Nat.le_of_ble_eq_true rfl) ?_
        rintro _ σz ⟨rfl, hz⟩
        subst σz
        refine zWp.use (ih.2.1 v1 (u_X9_goEvent_h0_3 N v1 σ) (hp.2.2 h1).2) (And.intro rfl (And.intro rfl trivial)) (fun vy σy hy => ?_)
        rw [l_X9_goEvent, if_neg h1]; exact hy
    · intro v1 σ hp
      rw [q_X9_goEvent] at hp
      refine zvc_sound (cd := kX9_goEvent) (cs := [36, 57, 114]) rfl okX9_goEvent 1000 _ _ 57 (zseek kX9_goEvent 57) _ _ _ zseek_sub ?_
      refine And.intro (vp_in_iff.mpr (by decide)) ?_
      refine And.intro (vp_in_iff.mpr (by decide)) ?_
      refine zCl.use (c_X9_atTask v1 3 (u_X9_goEvent_h1_1 N v1 σ)) (Nat.le_of_ble_eq_true rfl) ?_
      rintro _ σz ⟨rfl, hz⟩
      subst σz
      refine And.intro hp.1 ?_
      refine And.intro hp.1 ?_
      refine And.intro (vp_in_iff.mpr (by decide)) ?_
      refine And.intro (vp_in_iff.mpr (by decide)) ?_
      refine zCl.use (c_X9_isOver v1 (u_X9_goEvent_h1_3 N v1 σ) hp.2.1) (Nat.le_of_ble_eq_true rfl) ?_
      rintro _ σz ⟨rfl, hz⟩
      subst σz
      refine And.intro (fun (h1 : ¬ (f_X9_isOver v1 (u_X9_goEvent_h1_3 N v1 σ)) = 0) => ?_) (fun (h1 : (f_X9_isOver v1 (u_X9_goEvent_h1_3 N v1 σ)) = 0) => ?_)
      · refine zWp.use (ih.2.2 v1 (u_X9_goEvent_h1_3 N v1 σ) (hp.2.2.1 h1)) (And.intro rfl (And.intro rfl trivial)) (fun vy σy hy => ?_)
        rw [l_X9_goEvent, if_neg h1]; exact hy
      · refine And.intro (vp_in_iff.mpr (by decide)) ?_
        refine And.intro (vp_in_iff.mpr (by decide)) ?_
        refine And.intro (fun (h2 : ((u_X9_goEvent_h1_3 N v1 σ).1 469 4) < ((u_X9_goEvent_h1_3 N v1 σ).1 469 5)) => ?_) (fun (h2 : ¬ ((u_X9_goEvent_h1_3 N v1 σ).1 469 4) < ((u_X9_goEvent_h1_3 N v1 σ).1 469 5)) => ?_)
        · exact And.intro rfl (And.intro rfl ⟨rfl, by rw [l_X9_goEvent, if_pos h1, if_pos h2] <;> rfl⟩)
        · refine zWp.use (ih.2.2 v1 (u_X9_goEvent_h1_3 N v1 σ) ((hp.2.2.2 h1) h2)) (And.intro rfl (And.intro rfl trivial)) (fun vy σy hy => ?_)
          rw [l_X9_goEvent, if_pos h1, if_neg h2]; exact hy
    · intro v1 σ hp
      rw [q_X9_goEvent] at hp
      refine zvc_sound (cd := kX9_goEvent) (cs := [36, 57, 114]) rfl okX9_goEvent 1000 _ _ 114 (zseek kX9_goEvent 114) _ _ _ zseek_sub ?_
      refine zCl.use (c_X9_passOn N σ hp) (Nat.le_of_ble_eq_true rfl) ?_
      rintro _ σz ⟨rfl, hz⟩
      subst σz
      exact And.intro rfl (And.intro rfl ⟨rfl, by rw [l_X9_goEvent] <;> rfl⟩)
def u_X9_goEvent_1 (N : Nat) (σ : zS) : zS := s_X9_comeBack (σ.1 469 3) N σ
def u_X9_goEvent_2 (N : Nat) (σ : zS) : zS := s_X9_doBegin (σ.1 469 3) N σ
def s_X9_goEvent (N : Nat) (σ : zS) : zS := if (f_X9_state (σ.1 469 3) σ) = 0 then (l_X9_goEvent N N 1 (σ.1 469 3) (u_X9_goEvent_2 N σ)) else (if (f_X9_resident (σ.1 469 3) σ) = 0 then (l_X9_goEvent N N 0 (σ.1 469 3) (u_X9_goEvent_1 N σ)) else (l_X9_goEvent N N 0 (σ.1 469 3) σ))
def p_X9_goEvent (N : Nat) (σ : zS) : Prop := p_X9_state (σ.1 469 3) σ ∧ ((¬ (f_X9_state (σ.1 469 3) σ) = 0 → (p_X9_resident (σ.1 469 3) σ ∧ ((¬ (f_X9_resident (σ.1 469 3) σ) = 0 → q_X9_goEvent N N 0 (σ.1 469 3) σ) ∧ ((f_X9_resident (σ.1 469 3) σ) = 0 → (p_X9_comeBack (σ.1 469 3) N σ ∧ q_X9_goEvent N N 0 (σ.1 469 3) (u_X9_goEvent_1 N σ)))))) ∧ ((f_X9_state (σ.1 469 3) σ) = 0 → (p_X9_doBegin (σ.1 469 3) N σ ∧ q_X9_goEvent N N 1 (σ.1 469 3) (u_X9_goEvent_2 N σ))))
set_option maxRecDepth 100000 in
set_option maxHeartbeats 1000000 in
theorem c_X9_goEvent {nx : Nat} (N : Nat) (σ : zS) (hp : p_X9_goEvent N σ) : zCl 6 zall nx zall nx 259 [.inr (9, 57, 468)] σ (fun v σ1 => v = none ∧ σ1 = s_X9_goEvent N σ) := by
  refine zmeth (cd := kX9_goEvent) [36, 57, 114] 1000 (Nat.le_of_ble_eq_true rfl) rfl okX9_goEvent (Nat.le_refl _) (Nat.le_of_ble_eq_true rfl) ?_
  refine And.intro (vp_in_iff.mpr (by decide)) ?_
  refine zCl.use (c_X9_state (σ.1 469 3) σ hp.1) (Nat.le_of_ble_eq_true rfl) ?_
  rintro _ σz ⟨rfl, hz⟩
  subst σz
  refine And.intro (fun (h1 : ¬ (f_X9_state (σ.1 469 3) σ) = 0) => ?_) (fun (h1 : (f_X9_state (σ.1 469 3) σ) = 0) => ?_)
  · refine zCl.use (c_X9_resident (σ.1 469 3) σ (hp.2.1 h1).1) (Nat.le_of_ble_eq_true rfl) ?_
    rintro _ σz ⟨rfl, hz⟩
    subst σz
    refine And.intro (fun (h2 : ¬ (f_X9_resident (σ.1 469 3) σ) = 0) => ?_) (fun (h2 : (f_X9_resident (σ.1 469 3) σ) = 0) => ?_)
    · refine zWp.use ((w_X9_goEvent N N).1 (σ.1 469 3) σ ((hp.2.1 h1).2.1 h2)) (And.intro rfl (And.intro rfl trivial)) (fun vy σy hy => ?_)
      rw [s_X9_goEvent, if_neg h1, if_neg h2]; exact hy
    · refine zCl.use (c_X9_comeBack (σ.1 469 3) N σ ((hp.2.1 h1).2.2 h2).1) (Nat.le_of_ble_eq_true rfl) ?_
      rintro _ σz ⟨rfl, hz⟩
      subst σz
      refine zWp.use ((w_X9_goEvent N N).1 (σ.1 469 3) (u_X9_goEvent_1 N σ) ((hp.2.1 h1).2.2 h2).2) (And.intro rfl (And.intro rfl trivial)) (fun vy σy hy => ?_)
      rw [s_X9_goEvent, if_neg h1, if_pos h2]; exact hy
  · refine zCl.use (c_X9_doBegin (σ.1 469 3) N σ (hp.2.2 h1).1) (Nat.le_of_ble_eq_true rfl) ?_
    rintro _ σz ⟨rfl, hz⟩
    subst σz
    refine zWp.use ((w_X9_goEvent N N).2.1 (σ.1 469 3) (u_X9_goEvent_2 N σ) (hp.2.2 h1).2) (And.intro rfl (And.intro rfl trivial)) (fun vy σy hy => ?_)
    rw [s_X9_goEvent, if_pos h1]; exact hy
def u_X9_goEvents_h0_1 (N : Nat) (v1 : Int32) (v2 : Int32) (σ : zS) : zS := s_X9_goEvent N σ
def l_X9_goEvents (N : Nat) : Nat → Int32 → Int32 → zS → Int32 × zS
  | 0, _, _, σ => (0, σ)
  | n + 1, v1, v2, σ => if v1 ≤ v2 then (v2, σ) else (if (σ.1 469 3) < 0 then (v2, σ) else (l_X9_goEvents N n v1 (v2 + 1) (u_X9_goEvents_h0_1 N v1 v2 σ)))
def q_X9_goEvents (N : Nat) : Nat → Int32 → Int32 → zS → Prop
  | 0, _, _, _ => False
  | n + 1, v1, v2, σ => ¬ v1 ≤ v2 → (¬ (σ.1 469 3) < 0 → (p_X9_goEvent N σ ∧ q_X9_goEvents N n v1 (v2 + 1) (u_X9_goEvents_h0_1 N v1 v2 σ)))
set_option maxRecDepth 100000 in
set_option maxHeartbeats 1000000 in
theorem w_X9_goEvents {nx : Nat} (N : Nat) : ∀ n : Nat, (∀ (v1 : Int32) (v2 : Int32) (σ : zS), q_X9_goEvents N n v1 v2 σ → zWp 7 zall nx 260 (fun v σ1 => v = some (.inl ((l_X9_goEvents N n v1 v2 σ).1)) ∧ σ1 = (l_X9_goEvents N n v1 v2 σ).2) zall nx 2 [some (.inr (9, 57, 468)), some (.inl v1), some (.inl v2)] [] σ) := by
  intro n
  induction n with
  | zero => exact fun _ _ _ h => h.elim
  | succ n ih =>
    intro v1 v2 σ hp
    rw [q_X9_goEvents] at hp
    refine zvc_sound (cd := kX9_goEvents) (cs := [2]) rfl okX9_goEvents 1000 _ _ 2 (zseek kX9_goEvents 2) _ _ _ zseek_sub ?_
    refine And.intro (fun (h1 : v1 ≤ v2) => ?_) (fun (h1 : ¬ v1 ≤ v2) => ?_)
    · exact And.intro rfl (And.intro rfl ⟨by rw [l_X9_goEvents, if_pos h1] <;> rfl, by rw [l_X9_goEvents, if_pos h1] <;> rfl⟩)
    · refine And.intro (vp_in_iff.mpr (by decide)) ?_
      refine And.intro (fun (h2 : (σ.1 469 3) < 0) => ?_) (fun (h2 : ¬ (σ.1 469 3) < 0) => ?_)
      · exact And.intro rfl (And.intro rfl ⟨by rw [l_X9_goEvents, if_neg h1, if_pos h2] <;> rfl, by rw [l_X9_goEvents, if_neg h1, if_pos h2] <;> rfl⟩)
      · refine zCl.use (c_X9_goEvent N σ ((hp h1) h2).1) (Nat.le_of_ble_eq_true rfl) ?_
        rintro _ σz ⟨rfl, hz⟩
        subst σz
        refine zWp.use (ih v1 (v2 + 1) (u_X9_goEvents_h0_1 N v1 v2 σ) ((hp h1) h2).2) (And.intro rfl (And.intro rfl (And.intro rfl trivial))) (fun vy σy hy => ?_)
        rw [l_X9_goEvents, if_neg h1, if_neg h2]; exact hy
def r_X9_goEvents (x1 : Int32) (N : Nat) (σ : zS) : Int32 × zS := l_X9_goEvents N N x1 0 σ
def p_X9_goEvents (x1 : Int32) (N : Nat) (σ : zS) : Prop := q_X9_goEvents N N x1 0 σ
set_option maxRecDepth 100000 in
set_option maxHeartbeats 1000000 in
theorem c_X9_goEvents {nx : Nat} (x1 : Int32) (N : Nat) (σ : zS) (hp : p_X9_goEvents x1 N σ) : zCl 7 zall nx zall nx 260 [.inr (9, 57, 468), .inl x1] σ (fun v σ1 => v = some (.inl ((r_X9_goEvents x1 N σ).1)) ∧ σ1 = (r_X9_goEvents x1 N σ).2) := by
  refine zmeth (cd := kX9_goEvents) [2] 1000 (Nat.le_of_ble_eq_true rfl) rfl okX9_goEvents (Nat.le_refl _) (Nat.le_of_ble_eq_true rfl) ?_
  refine zWp.use ((w_X9_goEvents N N) x1 0 σ hp) (And.intro rfl (And.intro rfl (And.intro rfl trivial))) (fun vy σy hy => ?_)
  rw [r_X9_goEvents]; exact hy
def u_X9_run_1 (x1 : Int32) (N : Nat) (σ : zS) : zS := s_X9_keepAct N σ
def u_X9_run_2 (x1 : Int32) (N : Nat) (σ : zS) : zS := (r_X9_goEvents x1 N (u_X9_run_1 x1 N σ)).2
def r_X9_run (x1 : Int32) (N : Nat) (σ : zS) : Int32 × zS := if (f_X9_isIn x1 1 500) = 0 then (-1, σ) else (if 0 ≤ (σ.1 469 3) then ((r_X9_goEvents x1 N (u_X9_run_1 x1 N σ)).1, (u_X9_run_2 x1 N σ)) else (0, σ))
def p_X9_run (x1 : Int32) (N : Nat) (σ : zS) : Prop := ¬ (f_X9_isIn x1 1 500) = 0 → (0 ≤ (σ.1 469 3) → (p_X9_keepAct N σ ∧ p_X9_goEvents x1 N (u_X9_run_1 x1 N σ)))
set_option maxRecDepth 100000 in
set_option maxHeartbeats 1000000 in
theorem c_X9_run {nx : Nat} (x1 : Int32) (N : Nat) (σ : zS) (hp : p_X9_run x1 N σ) : zCl 8 zall nx zall nx 262 [.inr (9, 57, 468), .inl x1] σ (fun v σ1 => v = some (.inl ((r_X9_run x1 N σ).1)) ∧ σ1 = (r_X9_run x1 N σ).2) := by
  refine zmeth (cd := kX9_run) [] 1000 (Nat.le_of_ble_eq_true rfl) rfl okX9_run (Nat.le_refl _) (Nat.le_of_ble_eq_true rfl) ?_
  refine zCl.use (c_X9_isIn x1 1 500 σ) (Nat.le_of_ble_eq_true rfl) ?_
  rintro _ σz ⟨rfl, hz⟩
  subst σz
  refine And.intro (fun (h1 : ¬ (f_X9_isIn x1 1 500) = 0) => ?_) (fun (h1 : (f_X9_isIn x1 1 500) = 0) => ?_)
  · refine And.intro (vp_in_iff.mpr (by decide)) ?_
    refine And.intro (fun (h2 : 0 ≤ (σ.1 469 3)) => ?_) (fun (h2 : ¬ 0 ≤ (σ.1 469 3)) => ?_)
    · refine zCl.use (c_X9_keepAct N σ ((hp h1) h2).1) (Nat.le_of_ble_eq_true rfl) ?_
      rintro _ σz ⟨rfl, hz⟩
      subst σz
      refine zCl.use (c_X9_goEvents x1 N (u_X9_run_1 x1 N σ) ((hp h1) h2).2) (Nat.le_of_ble_eq_true rfl) ?_
      rintro _ σz ⟨rfl, hz⟩
      subst σz
      exact And.intro rfl (And.intro rfl ⟨by rw [r_X9_run, if_neg h1, if_pos h2] <;> rfl, by rw [r_X9_run, if_neg h1, if_pos h2] <;> rfl⟩)
    · exact And.intro rfl (And.intro rfl ⟨by rw [r_X9_run, if_neg h1, if_neg h2] <;> rfl, by rw [r_X9_run, if_neg h1, if_neg h2] <;> rfl⟩)
  · exact And.intro rfl (And.intro rfl ⟨by rw [r_X9_run, if_pos h1] <;> rfl, by rw [r_X9_run, if_pos h1] <;> rfl⟩)
def u_X9_handler_1 (x1 : Int32) (x2 : Int32) (N : Nat) (σ : zS) : zS := s_X9_keepAct N σ
def u_X9_handler_2 (x1 : Int32) (x2 : Int32) (N : Nat) (σ : zS) : zS := s_X9_setWay x1 x2 N (u_X9_handler_1 x1 x2 N σ)
def r_X9_handler (x1 : Int32) (x2 : Int32) (N : Nat) (σ : zS) : Int32 × zS := if (f_X9_isWay x1 x2) = 0 then (0, σ) else (1, (u_X9_handler_2 x1 x2 N σ))
def p_X9_handler (x1 : Int32) (x2 : Int32) (N : Nat) (σ : zS) : Prop := ¬ (f_X9_isWay x1 x2) = 0 → (p_X9_keepAct N σ ∧ p_X9_setWay x1 x2 N (u_X9_handler_1 x1 x2 N σ))
set_option maxRecDepth 100000 in
set_option maxHeartbeats 1000000 in
theorem c_X9_handler {nx : Nat} (x1 : Int32) (x2 : Int32) (N : Nat) (σ : zS) (hp : p_X9_handler x1 x2 N σ) : zCl 3 zall nx zall nx 265 [.inr (9, 57, 468), .inl x1, .inl x2] σ (fun v σ1 => v = some (.inl ((r_X9_handler x1 x2 N σ).1)) ∧ σ1 = (r_X9_handler x1 x2 N σ).2) := by
  refine zmeth (cd := kX9_handler) [] 1000 (Nat.le_of_ble_eq_true rfl) rfl okX9_handler (Nat.le_refl _) (Nat.le_of_ble_eq_true rfl) ?_
  refine zCl.use (c_X9_isWay x1 x2 σ) (Nat.le_of_ble_eq_true rfl) ?_
  rintro _ σz ⟨rfl, hz⟩
  subst σz
  refine And.intro (fun (h1 : ¬ (f_X9_isWay x1 x2) = 0) => ?_) (fun (h1 : (f_X9_isWay x1 x2) = 0) => ?_)
  · refine zCl.use (c_X9_keepAct N σ (hp h1).1) (Nat.le_of_ble_eq_true rfl) ?_
    rintro _ σz ⟨rfl, hz⟩
    subst σz
    refine zCl.use (c_X9_setWay x1 x2 N (u_X9_handler_1 x1 x2 N σ) (hp h1).2) (Nat.le_of_ble_eq_true rfl) ?_
    rintro _ σz ⟨rfl, hz⟩
    subst σz
    exact And.intro rfl (And.intro rfl (And.intro (Or.inr rfl) ⟨by rw [r_X9_handler, if_neg h1] <;> rfl, by rw [r_X9_handler, if_neg h1] <;> rfl⟩))
  · exact And.intro rfl (And.intro rfl (And.intro (Or.inl rfl) ⟨by rw [r_X9_handler, if_pos h1] <;> rfl, by rw [r_X9_handler, if_pos h1] <;> rfl⟩))
theorem b_X9_handler {x1 : Int32} {x2 : Int32} {N : Nat} {σ : zS} : (r_X9_handler x1 x2 N σ).1 = 0 ∨ (r_X9_handler x1 x2 N σ).1 = 1 := by
  unfold r_X9_handler
  (repeat' split) <;> first | exact Or.inl rfl | exact Or.inr rfl
def u_X9_price_1 (x1 : Int32) (x2 : Int32) (N : Nat) (σ : zS) : zS := s_X9_keepAct N σ
def u_X9_price_2 (x1 : Int32) (x2 : Int32) (N : Nat) (σ : zS) : zS := zuI (u_X9_price_1 x1 x2 N σ) 469 8 x1
def u_X9_price_3 (x1 : Int32) (x2 : Int32) (N : Nat) (σ : zS) : zS := zuI (u_X9_price_2 x1 x2 N σ) 469 9 x2
def r_X9_price (x1 : Int32) (x2 : Int32) (N : Nat) (σ : zS) : Int32 × zS := if (f_X9_isIn x1 0 99) = 0 then (-1, σ) else (if (f_X9_isIn x2 0 99) = 0 then (-1, σ) else (f_X9_cost (u_X9_price_3 x1 x2 N σ), (u_X9_price_3 x1 x2 N σ)))
def p_X9_price (x1 : Int32) (x2 : Int32) (N : Nat) (σ : zS) : Prop := ¬ (f_X9_isIn x1 0 99) = 0 → (¬ (f_X9_isIn x2 0 99) = 0 → p_X9_keepAct N σ)
set_option maxRecDepth 100000 in
set_option maxHeartbeats 1000000 in
theorem c_X9_price {nx : Nat} (x1 : Int32) (x2 : Int32) (N : Nat) (σ : zS) (hp : p_X9_price x1 x2 N σ) : zCl 2 zall nx zall nx 266 [.inr (9, 57, 468), .inl x1, .inl x2] σ (fun v σ1 => v = some (.inl ((r_X9_price x1 x2 N σ).1)) ∧ σ1 = (r_X9_price x1 x2 N σ).2) := by
  refine zmeth (cd := kX9_price) [] 1000 (Nat.le_of_ble_eq_true rfl) rfl okX9_price (Nat.le_refl _) (Nat.le_of_ble_eq_true rfl) ?_
  refine zCl.use (c_X9_isIn x1 0 99 σ) (Nat.le_of_ble_eq_true rfl) ?_
  rintro _ σz ⟨rfl, hz⟩
  subst σz
  refine And.intro (fun (h1 : (f_X9_isIn x1 0 99) = 0) => ?_) (fun (h1 : ¬ (f_X9_isIn x1 0 99) = 0) => ?_)
  · exact And.intro rfl (And.intro rfl ⟨by rw [r_X9_price, if_pos h1] <;> rfl, by rw [r_X9_price, if_pos h1] <;> rfl⟩)
  · refine zCl.use (c_X9_isIn x2 0 99 σ) (Nat.le_of_ble_eq_true rfl) ?_
    rintro _ σz ⟨rfl, hz⟩
    subst σz
    refine And.intro (fun (h2 : ¬ (f_X9_isIn x2 0 99) = 0) => ?_) (fun (h2 : (f_X9_isIn x2 0 99) = 0) => ?_)
    · refine zCl.use (c_X9_keepAct N σ ((hp h1) h2)) (Nat.le_of_ble_eq_true rfl) ?_
      rintro _ σz ⟨rfl, hz⟩
      subst σz
      refine And.intro (vp_in_iff.mpr (by decide)) ?_
      refine And.intro (vp_in_iff.mpr (by decide)) ?_
      refine zCl.use (c_X9_cost (u_X9_price_3 x1 x2 N σ)) (Nat.le_of_ble_eq_true rfl) ?_
      rintro _ σz ⟨rfl, hz⟩
      subst σz
      exact And.intro rfl (And.intro rfl ⟨by rw [r_X9_price, if_neg h1, if_neg h2] <;> rfl, by rw [r_X9_price, if_neg h1, if_neg h2] <;> rfl⟩)
    · exact And.intro rfl (And.intro rfl ⟨by rw [r_X9_price, if_neg h1, if_pos h2] <;> rfl, by rw [r_X9_price, if_neg h1, if_pos h2] <;> rfl⟩)
def u_X9_slice_1 (x1 : Int32) (N : Nat) (σ : zS) : zS := s_X9_keepAct N σ
def u_X9_slice_2 (x1 : Int32) (N : Nat) (σ : zS) : zS := zuI (u_X9_slice_1 x1 N σ) 469 5 x1
def r_X9_slice (x1 : Int32) (N : Nat) (σ : zS) : Int32 × zS := if (f_X9_isIn x1 1 50) = 0 then (-1, σ) else ((u_X9_slice_1 x1 N σ).1 469 5, (u_X9_slice_2 x1 N σ))
def p_X9_slice (x1 : Int32) (N : Nat) (σ : zS) : Prop := ¬ (f_X9_isIn x1 1 50) = 0 → p_X9_keepAct N σ
set_option maxRecDepth 100000 in
set_option maxHeartbeats 1000000 in
theorem c_X9_slice {nx : Nat} (x1 : Int32) (N : Nat) (σ : zS) (hp : p_X9_slice x1 N σ) : zCl 2 zall nx zall nx 267 [.inr (9, 57, 468), .inl x1] σ (fun v σ1 => v = some (.inl ((r_X9_slice x1 N σ).1)) ∧ σ1 = (r_X9_slice x1 N σ).2) := by
  refine zmeth (cd := kX9_slice) [] 1000 (Nat.le_of_ble_eq_true rfl) rfl okX9_slice (Nat.le_refl _) (Nat.le_of_ble_eq_true rfl) ?_
  refine zCl.use (c_X9_isIn x1 1 50 σ) (Nat.le_of_ble_eq_true rfl) ?_
  rintro _ σz ⟨rfl, hz⟩
  subst σz
  refine And.intro (fun (h1 : ¬ (f_X9_isIn x1 1 50) = 0) => ?_) (fun (h1 : (f_X9_isIn x1 1 50) = 0) => ?_)
  · refine zCl.use (c_X9_keepAct N σ (hp h1)) (Nat.le_of_ble_eq_true rfl) ?_
    rintro _ σz ⟨rfl, hz⟩
    subst σz
    refine And.intro (vp_in_iff.mpr (by decide)) ?_
    refine And.intro (vp_in_iff.mpr (by decide)) ?_
    exact And.intro rfl (And.intro rfl ⟨by rw [r_X9_slice, if_neg h1] <;> rfl, by rw [r_X9_slice, if_neg h1] <;> rfl⟩)
  · exact And.intro rfl (And.intro rfl ⟨by rw [r_X9_slice, if_pos h1] <;> rfl, by rw [r_X9_slice, if_pos h1] <;> rfl⟩)
