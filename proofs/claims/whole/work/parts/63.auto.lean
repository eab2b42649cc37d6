/-! printed by wip/whole/dec2.py -/
def u_X8_best_h0_1 (N : Nat) (v1 : Int32) (a2 : Nat) (v3 : Int32) (v4 : Int32) (v5 : Int32) (σ : zS) : zS := s_X4_copyFrom 359 a2 N σ
def u_X8_best_h0_2 (N : Nat) (v1 : Int32) (a2 : Nat) (v3 : Int32) (v4 : Int32) (v5 : Int32) (σ : zS) : zS := s_X4_foresee 359 390 N (u_X8_best_h0_1 N v1 a2 v3 v4 v5 σ)
def u_X8_best_h0_3 (N : Nat) (v1 : Int32) (a2 : Nat) (v3 : Int32) (v4 : Int32) (v5 : Int32) (σ : zS) : zS := s_X4_changeHandler 359 ((u_X8_best_h0_2 N v1 a2 v3 v4 v5 σ).1 1000001 (v5).toNatClampNeg) (f_X8_at26 5 1000002 v5 (u_X8_best_h0_2 N v1 a2 v3 v4 v5 σ)) N (u_X8_best_h0_2 N v1 a2 v3 v4 v5 σ)
def u_X8_best_h0_4 (N : Nat) (v1 : Int32) (a2 : Nat) (v3 : Int32) (v4 : Int32) (v5 : Int32) (σ : zS) : zS := s_X4_playBelow 359 ((u_X8_best_h0_3 N v1 a2 v3 v4 v5 σ).2 0 5 - 1) v4 N (u_X8_best_h0_3 N v1 a2 v3 v4 v5 σ)
def l_X8_best (N : Nat) : Nat → Int32 → Nat → Int32 → Int32 → Int32 → zS → Int32 × zS
  | 0, _, _, _, _, _, σ => (0, σ)
  | n + 1, v1, a2, v3, v4, v5, σ => if 5 ≤ v5 then (if v1 = 0 then (v3, σ) else (v4 - (f_X4_cost a2 σ), σ)) else (if v4 ≤ (f_X4_cost 359 (u_X8_best_h0_4 N v1 a2 v3 v4 v5 σ)) then (l_X8_best N n v1 a2 v3 v4 (v5 + 1) (u_X8_best_h0_4 N v1 a2 v3 v4 v5 σ)) else (l_X8_best N n v1 a2 v5 (f_X4_cost 359 (u_X8_best_h0_4 N v1 a2 v3 v4 v5 σ)) (v5 + 1) (u_X8_best_h0_4 N v1 a2 v3 v4 v5 σ)))
def q_X8_best (N : Nat) : Nat → Int32 → Nat → Int32 → Int32 → Int32 → zS → Prop
  | 0, _, _, _, _, _, _ => False
  | n + 1, v1, a2, v3, v4, v5, σ => ¬ 5 ≤ v5 → (p_X4_copyFrom 359 a2 N σ ∧ (p_X4_foresee 359 390 N (u_X8_best_h0_1 N v1 a2 v3 v4 v5 σ) ∧ (vp_in v5 5 ∧ (p_X8_at26 5 1000002 v5 (u_X8_best_h0_2 N v1 a2 v3 v4 v5 σ) ∧ (p_X4_changeHandler 359 ((u_X8_best_h0_2 N v1 a2 v3 v4 v5 σ).1 1000001 (v5).toNatClampNeg) (f_X8_at26 5 1000002 v5 (u_X8_best_h0_2 N v1 a2 v3 v4 v5 σ)) N (u_X8_best_h0_2 N v1 a2 v3 v4 v5 σ) ∧ (((u_X8_best_h0_3 N v1 a2 v3 v4 v5 σ).2 0 5 ≠ 0 ∧ zlay ((u_X8_best_h0_3 N v1 a2 v3 v4 v5 σ).2 0 5 - 1) = (2, 16)) ∧ (p_X4_playBelow 359 ((u_X8_best_h0_3 N v1 a2 v3 v4 v5 σ).2 0 5 - 1) v4 N (u_X8_best_h0_3 N v1 a2 v3 v4 v5 σ) ∧ ((v4 ≤ (f_X4_cost 359 (u_X8_best_h0_4 N v1 a2 v3 v4 v5 σ)) → q_X8_best N n v1 a2 v3 v4 (v5 + 1) (u_X8_best_h0_4 N v1 a2 v3 v4 v5 σ)) ∧ (¬ v4 ≤ (f_X4_cost 359 (u_X8_best_h0_4 N v1 a2 v3 v4 v5 σ)) → q_X8_best N n v1 a2 v5 (f_X4_cost 359 (u_X8_best_h0_4 N v1 a2 v3 v4 v5 σ)) (v5 + 1) (u_X8_best_h0_4 N v1 a2 v3 v4 v5 σ))))))))))
set_option maxRecDepth 100000 in
set_option maxHeartbeats 1000000 in
theorem w_X8_best {nx : Nat} (N : Nat) : ∀ n : Nat, (∀ (v1 : Int32) (a2 : Nat) (v3 : Int32) (v4 : Int32) (v5 : Int32) (σ : zS), q_X8_best N n v1 a2 v3 v4 v5 σ → zWp 8 zall nx 133 (fun v σ1 => v = some (.inl ((l_X8_best N n v1 a2 v3 v4 v5 σ).1)) ∧ σ1 = (l_X8_best N n v1 a2 v3 v4 v5 σ).2) zall nx 33 [some (.inr (8, 16, 0)), some (.inl v1), some (.inr (4, 17, a2)), some (.inl v3), some (.inl v4), some (.inl v5)] [] σ) := by
  intro n
  induction n with
  | zero => exact fun _ _ _ _ _ _ h => h.elim
  | succ n ih =>
    intro v1 a2 v3 v4 v5 σ hp
    rw [q_X8_best] at hp
    refine zvc_sound (cd := kX8_best) (cs := [33]) rfl okX8_best 1000 _ _ 33 (zseek kX8_best 33) _ _ _ zseek_sub ?_
    refine And.intro (fun (h1 : 5 ≤ v5) => ?_) (fun (h1 : ¬ 5 ≤ v5) => ?_)
    · refine And.intro (fun (h2 : ¬ v1 = 0) => ?_) (fun (h2 : v1 = 0) => ?_)
      · refine zCl.use (c_X4_cost a2 σ) (Nat.le_of_ble_eq_true rfl) ?_
        rintro _ σz ⟨rfl, hz⟩
        subst σz
        exact And.intro rfl (And.intro rfl ⟨by rw [l_X8_best, if_pos h1, if_neg h2] <;> rfl, by rw [l_X8_best, if_pos h1, if_neg h2] <;> rfl⟩)
      · exact And.intro rfl (And.intro rfl ⟨by rw [l_X8_best, if_pos h1, if_pos h2] <;> rfl, by rw [l_X8_best, if_pos h1, if_pos h2] <;> rfl⟩)
    · refine zCl.use (c_X4_copyFrom 359 a2 N σ (hp h1).1) (Nat.le_of_ble_eq_true rfl) ?_
      rintro _ σz ⟨rfl, hz⟩
      subst σz
      refine zCl.use (c_X4_foresee 359 390 N (u_X8_best_h0_1 N v1 a2 v3 v4 v5 σ) (hp h1).2.1) (Nat.le_of_ble_eq_true rfl) ?_
      rintro _ σz ⟨rfl, hz⟩
      subst σz
      refine And.intro (hp h1).2.2.1 ?_
      refine zCl.use (c_X8_at26 5 1000002 v5 (u_X8_best_h0_2 N v1 a2 v3 v4 v5 σ) (hp h1).2.2.2.1) (Nat.le_of_ble_eq_true rfl) ?_
      rintro _ σz ⟨rfl, hz⟩
      subst σz
      refine zCl.use (c_X4_changeHandler 359 ((u_X8_best_h0_2 N v1 a2 v3 v4 v5 σ).1 1000001 (v5).toNatClampNeg) (f_X8_at26 5 1000002 v5 (u_X8_best_h0_2 N v1 a2 v3 v4 v5 σ)) N (u_X8_best_h0_2 N v1 a2 v3 v4 v5 σ) (hp h1).2.2.2.2.1) (Nat.le_of_ble_eq_true rfl) ?_
      rintro _ σz ⟨rfl, hz⟩
      subst σz
      refine And.intro (hp h1).2.2.2.2.2.1.1 (fun q903 (e3 : (u_X8_best_h0_3 N v1 a2 v3 v4 v5 σ).2 0 5 = q903 + 1) => ?_)
      have g3 : q903 = ((u_X8_best_h0_3 N v1 a2 v3 v4 v5 σ).2 0 5 - 1) := by omega
      subst g3
      rw [(hp h1).2.2.2.2.2.1.2]
      refine zCl.use (c_X4_playBelow 359 ((u_X8_best_h0_3 N v1 a2 v3 v4 v5 σ).2 0 5 - 1) v4 N (u_X8_best_h0_3 N v1 a2 v3 v4 v5 σ) (hp h1).2.2.2.2.2.2.1) (Nat.le_of_ble_eq_true rfl) ?_
      rintro _ σz ⟨rfl, hz⟩
      subst σz
      refine zCl.use (c_X4_cost 359 (u_X8_best_h0_4 N v1 a2 v3 v4 v5 σ)) (Nat.le_of_ble_eq_true rfl) ?_
      rintro _ σz ⟨rfl, hz⟩
      subst σz
      refine And.intro (fun (h4 : v4 ≤ (f_X4_cost 359 (u_X8_best_h0_4 N v1 a2 v3 v4 v5 σ))) => ?_) (fun (h4 : ¬ v4 ≤ (f_X4_cost 359 (u_X8_best_h0_4 N v1 a2 v3 v4 v5 σ))) => ?_)
      · refine zWp.use (ih v1 a2 v3 v4 (v5 + 1) (u_X8_best_h0_4 N v1 a2 v3 v4 v5 σ) ((hp h1).2.2.2.2.2.2.2.1 h4)) (And.intro rfl (And.intro rfl (And.intro rfl (And.intro rfl (And.intro rfl (And.intro rfl trivial)))))) (fun vy σy hy => ?_)
        rw [l_X8_best, if_neg h1, if_pos h4]; exact hy
      · refine zCl.use (c_X4_cost 359 (u_X8_best_h0_4 N v1 a2 v3 v4 v5 σ)) (Nat.le_of_ble_eq_true rfl) ?_
        rintro _ σz ⟨rfl, hz⟩
        subst σz
        refine zWp.use (ih v1 a2 v5 (f_X4_cost 359 (u_X8_best_h0_4 N v1 a2 v3 v4 v5 σ)) (v5 + 1) (u_X8_best_h0_4 N v1 a2 v3 v4 v5 σ) ((hp h1).2.2.2.2.2.2.2.2 h4)) (And.intro rfl (And.intro rfl (And.intro rfl (And.intro rfl (And.intro rfl (And.intro rfl trivial)))))) (fun vy σy hy => ?_)
        rw [l_X8_best, if_neg h1, if_neg h4]; exact hy
def u_X8_best_1 (x1 : Int32) (N : Nat) (σ : zS) : zS := s_X8_lookAhead N σ
def r_X8_best (x1 : Int32) (N : Nat) (σ : zS) : Int32 × zS := if x1 < 0 then (-1, σ) else (if x1 ≤ 1 then (l_X8_best N N x1 (f_X1_now σ) 0 2147483647 0 (u_X8_best_1 x1 N σ)) else (-1, σ))
def p_X8_best (x1 : Int32) (N : Nat) (σ : zS) : Prop := ¬ x1 < 0 → (x1 ≤ 1 → (p_X1_now σ ∧ (p_X8_lookAhead N σ ∧ q_X8_best N N x1 (f_X1_now σ) 0 2147483647 0 (u_X8_best_1 x1 N σ))))
set_option maxRecDepth 100000 in
set_option maxHeartbeats 1000000 in
theorem c_X8_best {nx : Nat} (x1 : Int32) (N : Nat) (σ : zS) (hp : p_X8_best x1 N σ) : zCl 8 zall nx zall nx 133 [.inr (8, 16, 0), .inl x1] σ (fun v σ1 => v = some (.inl ((r_X8_best x1 N σ).1)) ∧ σ1 = (r_X8_best x1 N σ).2) := by
  refine zmeth (cd := kX8_best) [33] 1000 (Nat.le_of_ble_eq_true rfl) rfl okX8_best (Nat.le_refl _) (Nat.le_of_ble_eq_true rfl) ?_
  refine And.intro (fun (h1 : x1 < 0) => ?_) (fun (h1 : ¬ x1 < 0) => ?_)
  · exact And.intro rfl (And.intro rfl ⟨by rw [r_X8_best, if_pos h1] <;> rfl, by rw [r_X8_best, if_pos h1] <;> rfl⟩)
  · refine And.intro (fun (h2 : x1 ≤ 1) => ?_) (fun (h2 : ¬ x1 ≤ 1) => ?_)
    · refine zCl.use (c_X1_now σ ((hp h1) h2).1) (Nat.le_of_ble_eq_true rfl) ?_
      rintro _ σz ⟨rfl, hz⟩
      subst σz
      refine zCl.use (c_X8_lookAhead N σ ((hp h1) h2).2.1) (Nat.le_of_ble_eq_true rfl) ?_
      rintro _ σz ⟨rfl, hz⟩
      subst σz
      refine zWp.use ((w_X8_best N N) x1 (f_X1_now σ) 0 2147483647 0 (u_X8_best_1 x1 N σ) ((hp h1) h2).2.2) (And.intro rfl (And.intro rfl (And.intro rfl (And.intro rfl (And.intro rfl (And.intro rfl trivial)))))) (fun vy σy hy => ?_)
      rw [r_X8_best, if_neg h1, if_pos h2]; exact hy
    · exact And.intro rfl (And.intro rfl ⟨by rw [r_X8_best, if_neg h1, if_neg h2] <;> rfl, by rw [r_X8_best, if_neg h1, if_neg h2] <;> rfl⟩)
def u_X8_bestSlice_h0_1 (N : Nat) (v1 : Int32) (a2 : Nat) (v3 : Int32) (v4 : Int32) (v5 : Int32) (v6 : Int32) (σ : zS) : zS := s_X4_copyFrom 359 a2 N σ
def u_X8_bestSlice_h0_2 (N : Nat) (v1 : Int32) (a2 : Nat) (v3 : Int32) (v4 : Int32) (v5 : Int32) (v6 : Int32) (σ : zS) : zS := s_X4_foresee 359 390 N (u_X8_bestSlice_h0_1 N v1 a2 v3 v4 v5 v6 σ)
def u_X8_bestSlice_h0_3 (N : Nat) (v1 : Int32) (a2 : Nat) (v3 : Int32) (v4 : Int32) (v5 : Int32) (v6 : Int32) (σ : zS) : zS := zuI (u_X8_bestSlice_h0_2 N v1 a2 v3 v4 v5 v6 σ) 359 6 v6
def u_X8_bestSlice_h0_4 (N : Nat) (v1 : Int32) (a2 : Nat) (v3 : Int32) (v4 : Int32) (v5 : Int32) (v6 : Int32) (σ : zS) : zS := s_X4_playBelow 359 ((u_X8_bestSlice_h0_3 N v1 a2 v3 v4 v5 v6 σ).2 0 5 - 1) v5 N (u_X8_bestSlice_h0_3 N v1 a2 v3 v4 v5 v6 σ)
def l_X8_bestSlice (N : Nat) : Nat → Int32 → Nat → Int32 → Int32 → Int32 → Int32 → zS → Int32 × zS
  | 0, _, _, _, _, _, _, σ => (0, σ)
  | n + 1, v1, a2, v3, v4, v5, v6, σ => if v3 < v6 then (if v1 = 0 then (v4, σ) else (v5 - (f_X4_cost a2 σ), σ)) else (if v5 ≤ (f_X4_cost 359 (u_X8_bestSlice_h0_4 N v1 a2 v3 v4 v5 v6 σ)) then (l_X8_bestSlice N n v1 a2 v3 v4 v5 (v6 + 1) (u_X8_bestSlice_h0_4 N v1 a2 v3 v4 v5 v6 σ)) else (l_X8_bestSlice N n v1 a2 v3 v6 (f_X4_cost 359 (u_X8_bestSlice_h0_4 N v1 a2 v3 v4 v5 v6 σ)) (v6 + 1) (u_X8_bestSlice_h0_4 N v1 a2 v3 v4 v5 v6 σ)))
def q_X8_bestSlice (N : Nat) : Nat → Int32 → Nat → Int32 → Int32 → Int32 → Int32 → zS → Prop
  | 0, _, _, _, _, _, _, _ => False
  | n + 1, v1, a2, v3, v4, v5, v6, σ => ¬ v3 < v6 → (p_X4_copyFrom 359 a2 N σ ∧ (p_X4_foresee 359 390 N (u_X8_bestSlice_h0_1 N v1 a2 v3 v4 v5 v6 σ) ∧ (((u_X8_bestSlice_h0_3 N v1 a2 v3 v4 v5 v6 σ).2 0 5 ≠ 0 ∧ zlay ((u_X8_bestSlice_h0_3 N v1 a2 v3 v4 v5 v6 σ).2 0 5 - 1) = (2, 16)) ∧ (p_X4_playBelow 359 ((u_X8_bestSlice_h0_3 N v1 a2 v3 v4 v5 v6 σ).2 0 5 - 1) v5 N (u_X8_bestSlice_h0_3 N v1 a2 v3 v4 v5 v6 σ) ∧ ((v5 ≤ (f_X4_cost 359 (u_X8_bestSlice_h0_4 N v1 a2 v3 v4 v5 v6 σ)) → q_X8_bestSlice N n v1 a2 v3 v4 v5 (v6 + 1) (u_X8_bestSlice_h0_4 N v1 a2 v3 v4 v5 v6 σ)) ∧ (¬ v5 ≤ (f_X4_cost 359 (u_X8_bestSlice_h0_4 N v1 a2 v3 v4 v5 v6 σ)) → q_X8_bestSlice N n v1 a2 v3 v6 (f_X4_cost 359 (u_X8_bestSlice_h0_4 N v1 a2 v3 v4 v5 v6 σ)) (v6 + 1) (u_X8_bestSlice_h0_4 N v1 a2 v3 v4 v5 v6 σ)))))))
set_option maxRecDepth 100000 in
set_option maxHeartbeats 1000000 in
theorem w_X8_bestSlice {nx : Nat} (N : Nat) : ∀ n : Nat, (∀ (v1 : Int32) (a2 : Nat) (v3 : Int32) (v4 : Int32) (v5 : Int32) (v6 : Int32) (σ : zS), q_X8_bestSlice N n v1 a2 v3 v4 v5 v6 σ → zWp 8 zall nx 134 (fun v σ1 => v = some (.inl ((l_X8_bestSlice N n v1 a2 v3 v4 v5 v6 σ).1)) ∧ σ1 = (l_X8_bestSlice N n v1 a2 v3 v4 v5 v6 σ).2) zall nx 49 [some (.inr (8, 16, 0)), some (.inl v1), some (.inr (4, 17, a2)), some (.inl v3), some (.inl v4), some (.inl v5), some (.inl v6)] [] σ) := by
  intro n
  induction n with
  | zero => exact fun _ _ _ _ _ _ _ h => h.elim
  | succ n ih =>
    intro v1 a2 v3 v4 v5 v6 σ hp
    rw [q_X8_bestSlice] at hp
    refine zvc_sound (cd := kX8_bestSlice) (cs := [49]) rfl okX8_bestSlice 1000 _ _ 49 (zseek kX8_bestSlice 49) _ _ _ zseek_sub ?_
    refine And.intro (fun (h1 : v3 < v6) => ?_) (fun (h1 : ¬ v3 < v6) => ?_)
    · refine And.intro (fun (h2 : ¬ v1 = 0) => ?_) (fun (h2 : v1 = 0) => ?_)
      · refine zCl.use (c_X4_cost a2 σ) (Nat.le_of_ble_eq_true rfl) ?_
        rintro _ σz ⟨rfl, hz⟩
        subst σz
        exact And.intro rfl (And.intro rfl ⟨by rw [l_X8_bestSlice, if_pos h1, if_neg h2] <;> rfl, by rw [l_X8_bestSlice, if_pos h1, if_neg h2] <;> rfl⟩)
      · exact And.intro rfl (And.intro rfl ⟨by rw [l_X8_bestSlice, if_pos h1, if_pos h2] <;> rfl, by rw [l_X8_bestSlice, if_pos h1, if_pos h2] <;> rfl⟩)
    · refine zCl.use (c_X4_copyFrom 359 a2 N σ (hp h1).1) (Nat.le_of_ble_eq_true rfl) ?_
      rintro _ σz ⟨rfl, hz⟩
      subst σz
      refine zCl.use (c_X4_foresee 359 390 N (u_X8_bestSlice_h0_1 N v1 a2 v3 v4 v5 v6 σ) (hp h1).2.1) (Nat.le_of_ble_eq_true rfl) ?_
      rintro _ σz ⟨rfl, hz⟩
      subst σz
      refine And.intro (hp h1).2.2.1.1 (fun q903 (e3 : (u_X8_bestSlice_h0_3 N v1 a2 v3 v4 v5 v6 σ).2 0 5 = q903 + 1) => ?_)
      have g3 : q903 = ((u_X8_bestSlice_h0_3 N v1 a2 v3 v4 v5 v6 σ).2 0 5 - 1) := by omega
      subst g3
      rw [(hp h1).2.2.1.2]
      refine zCl.use (c_X4_playBelow 359 ((u_X8_bestSlice_h0_3 N v1 a2 v3 v4 v5 v6 σ).2 0 5 - 1) v5 N (u_X8_bestSlice_h0_3 N v1 a2 v3 v4 v5 v6 σ) (hp h1).2.2.2.1) (Nat.le_of_ble_eq_true rfl) ?_
      rintro _ σz ⟨rfl, hz⟩
      subst σz
      refine zCl.use (c_X4_cost 359 (u_X8_bestSlice_h0_4 N v1 a2 v3 v4 v5 v6 σ)) (Nat.le_of_ble_eq_true rfl) ?_
      rintro _ σz ⟨rfl, hz⟩
      subst σz
      refine And.intro (fun (h4 : v5 ≤ (f_X4_cost 359 (u_X8_bestSlice_h0_4 N v1 a2 v3 v4 v5 v6 σ))) => ?_) (fun (h4 : ¬ v5 ≤ (f_X4_cost 359 (u_X8_bestSlice_h0_4 N v1 a2 v3 v4 v5 v6 σ))) => ?_)
      · refine zWp.use (ih v1 a2 v3 v4 v5 (v6 + 1) (u_X8_bestSlice_h0_4 N v1 a2 v3 v4 v5 v6 σ) ((hp h1).2.2.2.2.1 h4)) (And.intro rfl (And.intro rfl (And.intro rfl (And.intro rfl (And.intro rfl (And.intro rfl (And.intro rfl trivial))))))) (fun vy σy hy => ?_)
        rw [l_X8_bestSlice, if_neg h1, if_pos h4]; exact hy
      · refine zCl.use (c_X4_cost 359 (u_X8_bestSlice_h0_4 N v1 a2 v3 v4 v5 v6 σ)) (Nat.le_of_ble_eq_true rfl) ?_
        rintro _ σz ⟨rfl, hz⟩
        subst σz
        refine zWp.use (ih v1 a2 v3 v6 (f_X4_cost 359 (u_X8_bestSlice_h0_4 N v1 a2 v3 v4 v5 v6 σ)) (v6 + 1) (u_X8_bestSlice_h0_4 N v1 a2 v3 v4 v5 v6 σ) ((hp h1).2.2.2.2.2 h4)) (And.intro rfl (And.intro rfl (And.intro rfl (And.intro rfl (And.intro rfl (And.intro rfl (And.intro rfl trivial))))))) (fun vy σy hy => ?_)
        rw [l_X8_bestSlice, if_neg h1, if_neg h4]; exact hy
def u_X8_bestSlice_1 (x1 : Int32) (N : Nat) (σ : zS) : zS := s_X8_lookAhead N σ
def u_X8_bestSlice_2 (x1 : Int32) (N : Nat) (σ : zS) : zS := s_X8_lookAhead N σ
def r_X8_bestSlice (x1 : Int32) (N : Nat) (σ : zS) : Int32 × zS := if x1 < 0 then (-1, σ) else (if x1 ≤ 1 then (if (f_X4_tasksLeft (f_X1_now σ) N σ) ≤ 1 then (l_X8_bestSlice N N x1 (f_X1_now σ) 1 1 2147483647 1 (u_X8_bestSlice_1 x1 N σ)) else (l_X8_bestSlice N N x1 (f_X1_now σ) 50 1 2147483647 1 (u_X8_bestSlice_2 x1 N σ))) else (-1, σ))
def p_X8_bestSlice (x1 : Int32) (N : Nat) (σ : zS) : Prop := ¬ x1 < 0 → (x1 ≤ 1 → (p_X1_now σ ∧ (p_X4_tasksLeft (f_X1_now σ) N σ ∧ (((f_X4_tasksLeft (f_X1_now σ) N σ) ≤ 1 → (p_X8_lookAhead N σ ∧ q_X8_bestSlice N N x1 (f_X1_now σ) 1 1 2147483647 1 (u_X8_bestSlice_1 x1 N σ))) ∧ (¬ (f_X4_tasksLeft (f_X1_now σ) N σ) ≤ 1 → (p_X8_lookAhead N σ ∧ q_X8_bestSlice N N x1 (f_X1_now σ) 50 1 2147483647 1 (u_X8_bestSlice_2 x1 N σ)))))))
set_option maxRecDepth 100000 in
set_option maxHeartbeats 1000000 in
theorem c_X8_bestSlice {nx : Nat} (x1 : Int32) (N : Nat) (σ : zS) (hp : p_X8_bestSlice x1 N σ) : zCl 8 zall nx zall nx 134 [.inr (8, 16, 0), .inl x1] σ (fun v σ1 => v = some (.inl ((r_X8_bestSlice x1 N σ).1)) ∧ σ1 = (r_X8_bestSlice x1 N σ).2) := by
  refine zmeth (cd := kX8_bestSlice) [49] 1000 (Nat.le_of_ble_eq_true rfl) rfl okX8_bestSlice (Nat.le_refl _) (Nat.le_of_ble_eq_true rfl) ?_
  refine And.intro (fun (h1 : x1 < 0) => ?_) (fun (h1 : ¬ x1 < 0) => ?_)
  · exact And.intro rfl (And.intro rfl ⟨by rw [r_X8_bestSlice, if_pos h1] <;> rfl, by rw [r_X8_bestSlice, if_pos h1] <;> rfl⟩)
  · refine And.intro (fun (h2 : x1 ≤ 1) => ?_) (fun (h2 : ¬ x1 ≤ 1) => ?_)
    · refine zCl.use (c_X1_now σ ((hp h1) h2).1) (Nat.le_of_ble_eq_true rfl) ?_
      rintro _ σz ⟨rfl, hz⟩
      subst σz
      refine zCl.use (c_X4_tasksLeft (f_X1_now σ) N σ ((hp h1) h2).2.1) (Nat.le_of_ble_eq_true rfl) ?_
      rintro _ σz ⟨rfl, hz⟩
      subst σz
      refine And.intro (fun (h3 : (f_X4_tasksLeft (f_X1_now σ) N σ) ≤ 1) => ?_) (fun (h3 : ¬ (f_X4_tasksLeft (f_X1_now σ) N σ) ≤ 1) => ?_)
      · refine zCl.use (c_X8_lookAhead N σ (((hp h1) h2).2.2.1 h3).1) (Nat.le_of_ble_eq_true rfl) ?_
        rintro _ σz ⟨rfl, hz⟩
        subst σz
        refine zWp.use ((w_X8_bestSlice N N) x1 (f_X1_now σ) 1 1 2147483647 1 (u_X8_bestSlice_1 x1 N σ) (((hp h1) h2).2.2.1 h3).2) (And.intro rfl (And.intro rfl (And.intro rfl (And.intro rfl (And.intro rfl (And.intro rfl (And.intro rfl trivial))))))) (fun vy σy hy => ?_)
        rw [r_X8_bestSlice, if_neg h1, if_pos h2, if_pos h3]; exact hy
      · refine zCl.use (c_X8_lookAhead N σ (((hp h1) h2).2.2.2 h3).1) (Nat.le_of_ble_eq_true rfl) ?_
        rintro _ σz ⟨rfl, hz⟩
        subst σz
        refine zWp.use ((w_X8_bestSlice N N) x1 (f_X1_now σ) 50 1 2147483647 1 (u_X8_bestSlice_2 x1 N σ) (((hp h1) h2).2.2.2 h3).2) (And.intro rfl (And.intro rfl (And.intro rfl (And.intro rfl (And.intro rfl (And.intro rfl (And.intro rfl trivial))))))) (fun vy σy hy => ?_)
        rw [r_X8_bestSlice, if_neg h1, if_pos h2, if_neg h3]; exact hy
    · exact And.intro rfl (And.intro rfl ⟨by rw [r_X8_bestSlice, if_neg h1, if_neg h2] <;> rfl, by rw [r_X8_bestSlice, if_neg h1, if_neg h2] <;> rfl⟩)
def u_X9_readBody_h0_1 (N : Nat) (v1 : Int32) (σ : zS) : zS := s_X9_readUnit v1 N σ
def u_X9_readBody_h0_2 (N : Nat) (v1 : Int32) (σ : zS) : zS := s_X9_readUnit v1 N σ
def u_X9_readBody_h0_3 (N : Nat) (v1 : Int32) (σ : zS) : zS := s_X9_openIf v1 N σ
def u_X9_readBody_h0_4 (N : Nat) (v1 : Int32) (σ : zS) : zS := s_X9_goBehind v1 N σ
def l_X9_readBody (N : Nat) : Nat → Int32 → zS → zS
  | 0, _, σ => σ
  | n + 1, v1, σ => if (σ.1 468 25) = 0 then (if (σ.1 468 39) = 3 then σ else (if (σ.1 468 39) = 2 then (l_X9_readBody N n v1 (u_X9_readBody_h0_4 N v1 σ)) else (if (σ.1 468 39) = 0 then (if (f_X9_isWord 10 σ) = 0 then (l_X9_readBody N n v1 (u_X9_readBody_h0_2 N v1 σ)) else (l_X9_readBody N n v1 (u_X9_readBody_h0_3 N v1 σ))) else (l_X9_readBody N n v1 (u_X9_readBody_h0_1 N v1 σ))))) else σ
def q_X9_readBody (N : Nat) : Nat → Int32 → zS → Prop
  | 0, _, _ => False
  | n + 1, v1, σ => (σ.1 468 25) = 0 → (¬ (σ.1 468 39) = 3 → ((¬ (σ.1 468 39) = 2 → ((¬ (σ.1 468 39) = 0 → (p_X9_readUnit v1 N σ ∧ q_X9_readBody N n v1 (u_X9_readBody_h0_1 N v1 σ))) ∧ ((σ.1 468 39) = 0 → (((f_X9_isWord 10 σ) = 0 → (p_X9_readUnit v1 N σ ∧ q_X9_readBody N n v1 (u_X9_readBody_h0_2 N v1 σ))) ∧ (¬ (f_X9_isWord 10 σ) = 0 → (p_X9_openIf v1 N σ ∧ q_X9_readBody N n v1 (u_X9_readBody_h0_3 N v1 σ))))))) ∧ ((σ.1 468 39) = 2 → (p_X9_goBehind v1 N σ ∧ q_X9_readBody N n v1 (u_X9_readBody_h0_4 N v1 σ)))))
set_option maxRecDepth 100000 in
set_option maxHeartbeats 1000000 in
theorem w_X9_readBody {nx : Nat} (N : Nat) : ∀ n : Nat, (∀ (v1 : Int32) (σ : zS), q_X9_readBody N n v1 σ → zWp 9 zall nx 189 (fun v σ1 => v = none ∧ σ1 = l_X9_readBody N n v1 σ) zall nx 15 [some (.inr (9, 57, 468)), some (.inl v1)] [] σ) := by
  intro n
  induction n with
  | zero => exact fun _ _ h => h.elim
  | succ n ih =>
    intro v1 σ hp
    rw [q_X9_readBody] at hp
    refine zvc_sound (cd := kX9_readBody) (cs := [15]) rfl okX9_readBody 1000 _ _ 15 (zseek kX9_readBody 15) _ _ _ zseek_sub ?_
    refine And.intro (fun (h1 : ¬ (σ.1 468 25) = 0) => ?_) (fun (h1 : (σ.1 468 25) = 0) => ?_)
    · exact And.intro rfl (And.intro rfl ⟨rfl, by rw [l_X9_readBody, if_neg h1] <;> rfl⟩)
    · refine And.intro (fun (h2 : (σ.1 468 39) = 3) => ?_) (fun (h2 : ¬ (σ.1 468 39) = 3) => ?_)
      · exact And.intro rfl (And.intro rfl ⟨rfl, by rw [l_X9_readBody, if_pos h1, if_pos h2] <;> rfl⟩)
      · refine And.intro (fun (h3 : ¬ (σ.1 468 39) = 2) => ?_) (fun (h3 : (σ.1 468 39) = 2) => ?_)
        · refine And.intro (fun (h4 : ¬ (σ.1 468 39) = 0) => ?_) (fun (h4 : (σ.1 468 39) = 0) => ?_)
          · refine zCl.use (c_X9_readUnit v1 N σ ((((hp h1) h2).1 h3).1 h4).1) (Nat.le_of_ble_eq_true rfl) ?_
            rintro _ σz ⟨rfl, hz⟩
            subst σz
            refine zWp.use (ih v1 (u_X9_readBody_h0_1 N v1 σ) ((((hp h1) h2).1 h3).1 h4).2) (And.intro rfl (And.intro rfl trivial)) (fun vy σy hy => ?_)
            rw [l_X9_readBody, if_pos h1, if_neg h2, if_neg h3, if_neg h4]; exact hy
          · refine zCl.use (c_X9_isWord 10 σ) (Nat.le_of_ble_eq_true rfl) ?_
            rintro _ σz ⟨rfl, hz⟩
            subst σz
            refine And.intro (fun (h5 : (f_X9_isWord 10 σ) = 0) => ?_) (fun (h5 : ¬ (f_X9_isWord 10 σ) = 0) => ?_)
            · refine zCl.use (c_X9_readUnit v1 N σ (((((hp h1) h2).1 h3).2 h4).1 h5).1) (Nat.le_of_ble_eq_true rfl) ?_
              rintro _ σz ⟨rfl, hz⟩
              subst σz
              refine zWp.use (ih v1 (u_X9_readBody_h0_2 N v1 σ) (((((hp h1) h2).1 h3).2 h4).1 h5).2) (And.intro rfl (And.intro rfl trivial)) (fun vy σy hy => ?_)
              rw [l_X9_readBody, if_pos h1, if_neg h2, if_neg h3, if_pos h4, if_pos h5]; exact hy
            · refine zCl.use (c_X9_openIf v1 N σ (((((hp h1) h2).1 h3).2 h4).2 h5).1) (Nat.le_of_ble_eq_true rfl) ?_
              rintro _ σz ⟨rfl, hz⟩
              subst σz
              refine zWp.use (ih v1 (u_X9_readBody_h0_3 N v1 σ) (((((hp h1) h2).1 h3).2 h4).2 h5).2) (And.intro rfl (And.intro rfl trivial)) (fun vy σy hy => ?_)
              rw [l_X9_readBody, if_pos h1, if_neg h2, if_neg h3, if_pos h4, if_neg h5]; exact hy
        · refine zCl.use (c_X9_goBehind v1 N σ (((hp h1) h2).2 h3).1) (Nat.le_of_ble_eq_true rfl) ?_
          rintro _ σz ⟨rfl, hz⟩
          subst σz
          refine zWp.use (ih v1 (u_X9_readBody_h0_4 N v1 σ) (((hp h1) h2).2 h3).2) (And.intro rfl (And.intro rfl trivial)) (fun vy σy hy => ?_)
          rw [l_X9_readBody, if_pos h1, if_neg h2, if_pos h3]; exact hy
def u_X9_readBody_1 (x1 : Int32) (N : Nat) (σ : zS) : zS := zuI σ 468 37 0
def u_X9_readBody_2 (x1 : Int32) (N : Nat) (σ : zS) : zS := zuI (u_X9_readBody_1 x1 N σ) 468 38 0
def u_X9_readBody_3 (x1 : Int32) (N : Nat) (σ : zS) : zS := zuI (u_X9_readBody_2 x1 N σ) 468 39 0
def s_X9_readBody (x1 : Int32) (N : Nat) (σ : zS) : zS := l_X9_readBody N N x1 (u_X9_readBody_3 x1 N σ)
def p_X9_readBody (x1 : Int32) (N : Nat) (σ : zS) : Prop := q_X9_readBody N N x1 (u_X9_readBody_3 x1 N σ)
set_option maxRecDepth 100000 in
set_option maxHeartbeats 1000000 in
theorem c_X9_readBody {nx : Nat} (x1 : Int32) (N : Nat) (σ : zS) (hp : p_X9_readBody x1 N σ) : zCl 9 zall nx zall nx 189 [.inr (9, 57, 468), .inl x1] σ (fun v σ1 => v = none ∧ σ1 = s_X9_readBody x1 N σ) := by
  refine zmeth (cd := kX9_readBody) [15] 1000 (Nat.le_of_ble_eq_true rfl) rfl okX9_readBody (Nat.le_refl _) (Nat.le_of_ble_eq_true rfl) ?_
  refine zWp.use ((w_X9_readBody N N) x1 (u_X9_readBody_3 x1 N σ) hp) (And.intro rfl (And.intro rfl trivial)) (fun vy σy hy => ?_)
  rw [s_X9_readBody]; exact hy
def u_X3_readWindows_1 (N : Nat) (σ : zS) : zS := (r_X3_readFirstTold 1 N σ).2
def u_X3_readWindows_2 (N : Nat) (σ : zS) : zS := (r_X3_readNumber 2 12 N (u_X3_readWindows_1 N σ)).2
def u_X3_readWindows_3 (N : Nat) (σ : zS) : zS := zuI (u_X3_readWindows_2 N σ) ((u_X3_readWindows_2 N σ).2 2 1 - 1) 0 ((u_X3_readWindows_2 N σ).1 2 5)
def u_X3_readWindows_4 (N : Nat) (σ : zS) : zS := (r_X3_readSign 59 N (u_X3_readWindows_3 N σ)).2
def r_X3_readWindows (N : Nat) (σ : zS) : Int32 × zS := if ((r_X3_readFirstTold 1 N σ).1) = 0 then (0, (u_X3_readWindows_1 N σ)) else (if ((r_X3_readNumber 2 12 N (u_X3_readWindows_1 N σ)).1) = 0 then (0, (u_X3_readWindows_2 N σ)) else ((r_X3_readSign 59 N (u_X3_readWindows_3 N σ)).1, (u_X3_readWindows_4 N σ)))
def p_X3_readWindows (N : Nat) (σ : zS) : Prop := p_X3_readFirstTold 1 N σ ∧ (¬ ((r_X3_readFirstTold 1 N σ).1) = 0 → (p_X3_readNumber 2 12 N (u_X3_readWindows_1 N σ) ∧ (¬ ((r_X3_readNumber 2 12 N (u_X3_readWindows_1 N σ)).1) = 0 → (((u_X3_readWindows_2 N σ).2 2 1 ≠ 0 ∧ zlay ((u_X3_readWindows_2 N σ).2 2 1 - 1) = (2, 16)) ∧ p_X3_readSign 59 N (u_X3_readWindows_3 N σ)))))
set_option maxRecDepth 100000 in
set_option maxHeartbeats 1000000 in
theorem c_X3_readWindows {nx : Nat} (N : Nat) (σ : zS) (hp : p_X3_readWindows N σ) : zCl 10 zall nx zall nx 29 [.inr (3, 12, 2)] σ (fun v σ1 => v = some (.inl ((r_X3_readWindows N σ).1)) ∧ σ1 = (r_X3_readWindows N σ).2) := by
  refine zmeth (cd := kX3_readWindows) [] 1000 (Nat.le_of_ble_eq_true rfl) rfl okX3_readWindows (Nat.le_refl _) (Nat.le_of_ble_eq_true rfl) ?_
  refine zCl.use (c_X3_readFirstTold 1 N σ hp.1) (Nat.le_of_ble_eq_true rfl) ?_
  rintro _ σz ⟨rfl, hz⟩
  subst σz
  refine And.intro (fun (h1 : ((r_X3_readFirstTold 1 N σ).1) = 0) => ?_) (fun (h1 : ¬ ((r_X3_readFirstTold 1 N σ).1) = 0) => ?_)
  · exact And.intro rfl (And.intro rfl (And.intro (Or.inl rfl) ⟨by rw [r_X3_readWindows, if_pos h1] <;> rfl, by rw [r_X3_readWindows, if_pos h1] <;> rfl⟩))
  · refine zCl.use (c_X3_readNumber 2 12 N (u_X3_readWindows_1 N σ) (hp.2 h1).1) (Nat.le_of_ble_eq_true rfl) ?_
    rintro _ σz ⟨rfl, hz⟩
    subst σz
    refine And.intro (fun (h2 : ¬ ((r_X3_readNumber 2 12 N (u_X3_readWindows_1 N σ)).1) = 0) => ?_) (fun (h2 : ((r_X3_readNumber 2 12 N (u_X3_readWindows_1 N σ)).1) = 0) => ?_)
    · refine And.intro ((hp.2 h1).2 h2).1.1 (fun q903 (e3 : (u_X3_readWindows_2 N σ).2 2 1 = q903 + 1) => ?_)
      have g3 : q903 = ((u_X3_readWindows_2 N σ).2 2 1 - 1) := by omega
      subst g3
      rw [((hp.2 h1).2 h2).1.2]
      refine zCl.use (c_X3_readSign 59 N (u_X3_readWindows_3 N σ) ((hp.2 h1).2 h2).2) (Nat.le_of_ble_eq_true rfl) ?_
      rintro _ σz ⟨rfl, hz⟩
      subst σz
      exact And.intro rfl (And.intro rfl (And.intro b_X3_readSign ⟨by rw [r_X3_readWindows, if_neg h1, if_neg h2] <;> rfl, by rw [r_X3_readWindows, if_neg h1, if_neg h2] <;> rfl⟩))
    · exact And.intro rfl (And.intro rfl (And.intro (Or.inl rfl) ⟨by rw [r_X3_readWindows, if_neg h1, if_pos h2] <;> rfl, by rw [r_X3_readWindows, if_neg h1, if_pos h2] <;> rfl⟩))
theorem b_X3_readWindows {N : Nat} {σ : zS} : (r_X3_readWindows N σ).1 = 0 ∨ (r_X3_readWindows N σ).1 = 1 := by
  unfold r_X3_readWindows
  (repeat' split) <;> first | exact Or.inl rfl | exact Or.inr rfl | exact b_X3_readSign
def u_X3_readHandler_h0_1 (N : Nat) (v1 : Int32) (σ : zS) : zS := s_X6_next N σ
def u_X3_readHandler_h0_2 (N : Nat) (v1 : Int32) (σ : zS) : zS := zuI (u_X3_readHandler_h0_1 N v1 σ) 2 5 0
def u_X3_readHandler_h0_3 (N : Nat) (v1 : Int32) (σ : zS) : zS := (r_X3_readNumber 1 8 N (u_X3_readHandler_h0_2 N v1 σ)).2
def u_X3_readHandler_h1_1 (N : Nat) (v1 : Int32) (σ : zS) : zS := (r_X3_readNumber 1 16 N σ).2
def u_X3_readHandler_h2_1 (N : Nat) (v1 : Int32) (σ : zS) : zS := zuI σ (σ.2 2 1 - 1) 1 ((0 + v1) - 316)
def u_X3_readHandler_h2_2 (N : Nat) (v1 : Int32) (σ : zS) : zS := zuI (u_X3_readHandler_h2_1 N v1 σ) ((u_X3_readHandler_h2_1 N v1 σ).2 2 1 - 1) 2 ((u_X3_readHandler_h2_1 N v1 σ).1 2 5)
def u_X3_readHandler_h2_3 (N : Nat) (v1 : Int32) (σ : zS) : zS := (r_X3_readSign 59 N (u_X3_readHandler_h2_2 N v1 σ)).2
def l_X3_readHandler (N : Nat) : Nat → Nat → Int32 → zS → Int32 × zS
  | 0, _, _, σ => (0, σ)
  | n + 1, 0, v1, σ => if v1 = 317 then (if ((r_X3_readNumber 1 8 N (u_X3_readHandler_h0_2 N v1 σ)).1) = 0 then (0, (u_X3_readHandler_h0_3 N v1 σ)) else (l_X3_readHandler N n 1 v1 (u_X3_readHandler_h0_3 N v1 σ))) else (l_X3_readHandler N n 1 v1 (u_X3_readHandler_h0_2 N v1 σ))
  | n + 1, 1, v1, σ => if v1 = 319 then (if ((r_X3_readNumber 1 16 N σ).1) = 0 then (0, (u_X3_readHandler_h1_1 N v1 σ)) else (l_X3_readHandler N n 2 v1 (u_X3_readHandler_h1_1 N v1 σ))) else (l_X3_readHandler N n 2 v1 σ)
  | n + 1, 2, v1, σ => ((r_X3_readSign 59 N (u_X3_readHandler_h2_2 N v1 σ)).1, (u_X3_readHandler_h2_3 N v1 σ))
  | _ + 1, _, _, σ => (0, σ)
def q_X3_readHandler (N : Nat) : Nat → Nat → Int32 → zS → Prop
  | 0, _, _, _ => False
  | n + 1, 0, v1, σ => p_X6_next N σ ∧ ((¬ v1 = 317 → q_X3_readHandler N n 1 v1 (u_X3_readHandler_h0_2 N v1 σ)) ∧ (v1 = 317 → (p_X3_readNumber 1 8 N (u_X3_readHandler_h0_2 N v1 σ) ∧ (¬ ((r_X3_readNumber 1 8 N (u_X3_readHandler_h0_2 N v1 σ)).1) = 0 → q_X3_readHandler N n 1 v1 (u_X3_readHandler_h0_3 N v1 σ)))))
  | n + 1, 1, v1, σ => (¬ v1 = 319 → q_X3_readHandler N n 2 v1 σ) ∧ (v1 = 319 → (p_X3_readNumber 1 16 N σ ∧ (¬ ((r_X3_readNumber 1 16 N σ).1) = 0 → q_X3_readHandler N n 2 v1 (u_X3_readHandler_h1_1 N v1 σ))))
  | n + 1, 2, v1, σ => (σ.2 2 1 ≠ 0 ∧ zlay (σ.2 2 1 - 1) = (2, 16)) ∧ (((u_X3_readHandler_h2_1 N v1 σ).2 2 1 ≠ 0 ∧ zlay ((u_X3_readHandler_h2_1 N v1 σ).2 2 1 - 1) = (2, 16)) ∧ p_X3_readSign 59 N (u_X3_readHandler_h2_2 N v1 σ))
  | _ + 1, _, _, _ => False
set_option maxRecDepth 100000 in
set_option maxHeartbeats 1000000 in
theorem w_X3_readHandler {nx : Nat} (N : Nat) : ∀ n : Nat, (∀ (v1 : Int32) (σ : zS), q_X3_readHandler N n 0 v1 σ → zWp 10 zall nx 30 (fun v σ1 => v = some (.inl ((l_X3_readHandler N n 0 v1 σ).1)) ∧ σ1 = (l_X3_readHandler N n 0 v1 σ).2) zall nx 51 [some (.inr (3, 12, 2)), some (.inl v1)] [] σ) ∧ (∀ (v1 : Int32) (σ : zS), q_X3_readHandler N n 1 v1 σ → zWp 10 zall nx 30 (fun v σ1 => v = some (.inl ((l_X3_readHandler N n 1 v1 σ).1)) ∧ σ1 = (l_X3_readHandler N n 1 v1 σ).2) zall nx 82 [some (.inr (3, 12, 2)), some (.inl v1)] [] σ) ∧ (∀ (v1 : Int32) (σ : zS), q_X3_readHandler N n 2 v1 σ → zWp 10 zall nx 30 (fun v σ1 => v = some (.inl ((l_X3_readHandler N n 2 v1 σ).1)) ∧ σ1 = (l_X3_readHandler N n 2 v1 σ).2) zall nx 101 [some (.inr (3, 12, 2)), some (.inl v1)] [] σ) := by
  intro n
  induction n with
  | zero => exact ⟨fun _ _ h => h.elim, fun _ _ h => h.elim, fun _ _ h => h.elim⟩
  | succ n ih =>
    refine ⟨?_, ?_, ?_⟩
    · intro v1 σ hp
      rw [q_X3_readHandler] at hp
      refine zvc_sound (cd := kX3_readHandler) (cs := [51, 82, 101]) rfl okX3_readHandler 1000 _ _ 51 (zseek kX3_readHandler 51) _ _ _ zseek_sub ?_
      refine zCl.use (c_X6_next N σ hp.1) (Nat.le_of_ble_eq_true rfl) ?_
      rintro _ σz ⟨rfl, hz⟩
      subst σz
      refine And.intro (fun (h1 : ¬ v1 = 317) => ?_) (fun (h1 : v1 = 317) => ?_)
      · refine zWp.use (ih.2.1 v1 (u_X3_readHandler_h0_2 N v1 σ) (hp.2.1 h1)) (And.intro rfl (And.intro rfl trivial)) (fun vy σy hy => ?_)
        rw [l_X3_readHandler, if_neg h1]; exact hy
      · refine zCl.use (c_X3_readNumber 1 8 N (u_X3_readHandler_h0_2 N v1 σ) (hp.2.2 h1).1) (Nat.le_of_ble_eq_true rfl) ?_
        rintro _ σz ⟨rfl, hz⟩
        subst σz
        refine And.intro (fun (h2 : ¬ ((r_X3_readNumber 1 8 N (u_X3_readHandler_h0_2 N v1 σ)).1) = 0) => ?_) (fun (h2 : ((r_X3_readNumber 1 8 N (u_X3_readHandler_h0_2 N v1 σ)).1) = 0) => ?_)
        · refine zWp.use (ih.2.1 v1 (u_X3_readHandler_h0_3 N v1 σ) ((hp.2.2 h1).2 h2)) (And.intro rfl (And.intro rfl trivial)) (fun vy σy hy => ?_)
          rw [l_X3_readHandler, if_pos h1, if_neg h2]; exact hy
        · exact And.intro rfl (And.intro rfl (And.intro (Or.inl rfl) ⟨by rw [l_X3_readHandler, if_pos h1, if_pos h2] <;> rfl, by rw [l_X3_readHandler, if_pos h1, if_pos h2] <;> rfl⟩))
    · intro v1 σ hp
      rw [q_X3_readHandler] at hp
      refine zvc_sound (cd := kX3_readHandler) (cs := [51, 82, 101]) rfl okX3_readHandler 1000 _ _ 82 (zseek kX3_readHandler 82) _ _ _ zseek_sub ?_
      refine And.intro (fun (h1 : ¬ v1 = 319) => ?_) (fun (h1 : v1 = 319) => ?_)
      · refine zWp.use (ih.2.2 v1 σ (hp.1 h1)) (And.intro rfl (And.intro rfl trivial)) (fun vy σy hy => ?_)
        rw [l_X3_readHandler, if_neg h1]; exact hy
      · refine zCl.use (c_X3_readNumber 1 16 N σ (hp.2 h1).1) (Nat.le_of_ble_eq_true rfl) ?_
        rintro _ σz ⟨rfl, hz⟩
        subst σz
        refine And.intro (fun (h2 : ¬ ((r_X3_readNumber 1 16 N σ).1) = 0) => ?_) (fun (h2 : ((r_X3_readNumber 1 16 N σ).1) = 0) => ?_)
        · refine zWp.use (ih.2.2 v1 (u_X3_readHandler_h1_1 N v1 σ) ((hp.2 h1).2 h2)) (And.intro rfl (And.intro rfl trivial)) (fun vy σy hy => ?_)
          rw [l_X3_readHandler, if_pos h1, if_neg h2]; exact hy
        · exact And.intro rfl (And.intro rfl (And.intro (Or.inl rfl) ⟨by rw [l_X3_readHandler, if_pos h1, if_pos h2] <;> rfl, by rw [l_X3_readHandler, if_pos h1, if_pos h2] <;> rfl⟩))
    · intro v1 σ hp
      rw [q_X3_readHandler] at hp
      refine zvc_sound (cd := kX3_readHandler) (cs := [51, 82, 101]) rfl okX3_readHandler 1000 _ _ 101 (zseek kX3_readHandler 101) _ _ _ zseek_sub ?_
      refine And.intro hp.1.1 (fun q901 (e1 : σ.2 2 1 = q901 + 1) => ?_)
      have g1 : q901 = (σ.2 2 1 - 1) := by omega
      subst g1
      rw [hp.1.2]
      refine And.intro hp.2.1.1 (fun q902 (e2 : (u_X3_readHandler_h2_1 N v1 σ).2 2 1 = q902 + 1) => ?_)
      have g2 : q902 = ((u_X3_readHandler_h2_1 N v1 σ).2 2 1 - 1) := by omega
      subst g2
      rw [hp.2.1.2]
      refine zCl.use (c_X3_readSign 59 N (u_X3_readHandler_h2_2 N v1 σ) hp.2.2) (Nat.le_of_ble_eq_true rfl) ?_
      rintro _ σz ⟨rfl, hz⟩
      subst σz
      exact And.intro rfl (And.intro rfl (And.intro b_X3_readSign ⟨by rw [l_X3_readHandler] <;> rfl, by rw [l_X3_readHandler] <;> rfl⟩))
def u_X3_readHandler_1 (N : Nat) (σ : zS) : zS := (r_X3_readFirstTold 2 N σ).2
def u_X3_readHandler_2 (N : Nat) (σ : zS) : zS := (r_X3_refuseToken (u_X3_readHandler_1 N σ)).2
def r_X3_readHandler (N : Nat) (σ : zS) : Int32 × zS := if ((r_X3_readFirstTold 2 N σ).1) = 0 then (0, (u_X3_readHandler_1 N σ)) else (if ((u_X3_readHandler_1 N σ).1 3 2) = 316 then (l_X3_readHandler N N 0 ((u_X3_readHandler_1 N σ).1 3 2) (u_X3_readHandler_1 N σ)) else (if ((u_X3_readHandler_1 N σ).1 3 2) = 317 then (l_X3_readHandler N N 0 ((u_X3_readHandler_1 N σ).1 3 2) (u_X3_readHandler_1 N σ)) else (if ((u_X3_readHandler_1 N σ).1 3 2) = 318 then (l_X3_readHandler N N 0 ((u_X3_readHandler_1 N σ).1 3 2) (u_X3_readHandler_1 N σ)) else (if ((u_X3_readHandler_1 N σ).1 3 2) = 319 then (l_X3_readHandler N N 0 ((u_X3_readHandler_1 N σ).1 3 2) (u_X3_readHandler_1 N σ)) else ((r_X3_refuseToken (u_X3_readHandler_1 N σ)).1, (u_X3_readHandler_2 N σ))))))
def p_X3_readHandler (N : Nat) (σ : zS) : Prop := p_X3_readFirstTold 2 N σ ∧ (¬ ((r_X3_readFirstTold 2 N σ).1) = 0 → ((((u_X3_readHandler_1 N σ).1 3 2) = 316 → q_X3_readHandler N N 0 ((u_X3_readHandler_1 N σ).1 3 2) (u_X3_readHandler_1 N σ)) ∧ (¬ ((u_X3_readHandler_1 N σ).1 3 2) = 316 → ((((u_X3_readHandler_1 N σ).1 3 2) = 317 → q_X3_readHandler N N 0 ((u_X3_readHandler_1 N σ).1 3 2) (u_X3_readHandler_1 N σ)) ∧ (¬ ((u_X3_readHandler_1 N σ).1 3 2) = 317 → ((((u_X3_readHandler_1 N σ).1 3 2) = 318 → q_X3_readHandler N N 0 ((u_X3_readHandler_1 N σ).1 3 2) (u_X3_readHandler_1 N σ)) ∧ (¬ ((u_X3_readHandler_1 N σ).1 3 2) = 318 → (((u_X3_readHandler_1 N σ).1 3 2) = 319 → q_X3_readHandler N N 0 ((u_X3_readHandler_1 N σ).1 3 2) (u_X3_readHandler_1 N σ)))))))))
set_option maxRecDepth 100000 in
set_option maxHeartbeats 1000000 in
theorem c_X3_readHandler {nx : Nat} (N : Nat) (σ : zS) (hp : p_X3_readHandler N σ) : zCl 10 zall nx zall nx 30 [.inr (3, 12, 2)] σ (fun v σ1 => v = some (.inl ((r_X3_readHandler N σ).1)) ∧ σ1 = (r_X3_readHandler N σ).2) := by
  refine zmeth (cd := kX3_readHandler) [51, 82, 101] 1000 (Nat.le_of_ble_eq_true rfl) rfl okX3_readHandler (Nat.le_refl _) (Nat.le_of_ble_eq_true rfl) ?_
  refine zCl.use (c_X3_readFirstTold 2 N σ hp.1) (Nat.le_of_ble_eq_true rfl) ?_
  rintro _ σz ⟨rfl, hz⟩
  subst σz
  refine And.intro (fun (h1 : ¬ ((r_X3_readFirstTold 2 N σ).1) = 0) => ?_) (fun (h1 : ((r_X3_readFirstTold 2 N σ).1) = 0) => ?_)
  · refine And.intro (fun (h2 : ((u_X3_readHandler_1 N σ).1 3 2) = 316) => ?_) (fun (h2 : ¬ ((u_X3_readHandler_1 N σ).1 3 2) = 316) => ?_)
    · refine zWp.use ((w_X3_readHandler N N).1 ((u_X3_readHandler_1 N σ).1 3 2) (u_X3_readHandler_1 N σ) ((hp.2 h1).1 h2)) (And.intro rfl (And.intro rfl trivial)) (fun vy σy hy => ?_)
      rw [r_X3_readHandler, if_neg h1, if_pos h2]; exact hy
    · refine And.intro (fun (h3 : ((u_X3_readHandler_1 N σ).1 3 2) = 317) => ?_) (fun (h3 : ¬ ((u_X3_readHandler_1 N σ).1 3 2) = 317) => ?_)
      · refine zWp.use ((w_X3_readHandler N N).1 ((u_X3_readHandler_1 N σ).1 3 2) (u_X3_readHandler_1 N σ) (((hp.2 h1).2 h2).1 h3)) (And.intro rfl (And.intro rfl trivial)) (fun vy σy hy => ?_)
        rw [r_X3_readHandler, if_neg h1, if_neg h2, if_pos h3]; exact hy
      · refine And.intro (fun (h4 : ((u_X3_readHandler_1 N σ).1 3 2) = 318) => ?_) (fun (h4 : ¬ ((u_X3_readHandler_1 N σ).1 3 2) = 318) => ?_)
        · refine zWp.use ((w_X3_readHandler N N).1 ((u_X3_readHandler_1 N σ).1 3 2) (u_X3_readHandler_1 N σ) ((((hp.2 h1).2 h2).2 h3).1 h4)) (And.intro rfl (And.intro rfl trivial)) (fun vy σy hy => ?_)
          rw [r_X3_readHandler, if_neg h1, if_neg h2, if_neg h3, if_pos h4]; exact hy
        · refine And.intro (fun (h5 : ((u_X3_readHandler_1 N σ).1 3 2) = 319) => ?_) (fun (h5 : ¬ ((u_X3_readHandler_1 N σ).1 3 2) = 319) => ?_)
          · refine zWp.use ((w_X3_readHandler N N).1 ((u_X3_readHandler_1 N σ).1 3 2) (u_X3_readHandler_1 N σ) (((((hp.2 h1).2 h2).2 h3).2 h4) h5)) (And.intro rfl (And.intro rfl trivial)) (fun vy σy hy => ?_)
            rw [r_X3_readHandler, if_neg h1, if_neg h2, if_neg h3, if_neg h4, if_pos h5]; exact hy
          · refine zCl.use (c_X3_refuseToken (u_X3_readHandler_1 N σ)) (Nat.le_of_ble_eq_true rfl) ?_
            rintro _ σz ⟨rfl, hz⟩
            subst σz
            exact And.intro rfl (And.intro rfl (And.intro b_X3_refuseToken ⟨by rw [r_X3_readHandler, if_neg h1, if_neg h2, if_neg h3, if_neg h4, if_neg h5] <;> rfl, by rw [r_X3_readHandler, if_neg h1, if_neg h2, if_neg h3, if_neg h4, if_neg h5] <;> rfl⟩))
  · exact And.intro rfl (And.intro rfl (And.intro (Or.inl rfl) ⟨by rw [r_X3_readHandler, if_pos h1] <;> rfl, by rw [r_X3_readHandler, if_pos h1] <;> rfl⟩))
def u_X3_readSlice_1 (N : Nat) (σ : zS) : zS := (r_X3_readFirstTold 4 N σ).2
def u_X3_readSlice_2 (N : Nat) (σ : zS) : zS := (r_X3_readNumber 1 50 N (u_X3_readSlice_1 N σ)).2
def u_X3_readSlice_3 (N : Nat) (σ : zS) : zS := zuI (u_X3_readSlice_2 N σ) ((u_X3_readSlice_2 N σ).2 2 1 - 1) 3 ((u_X3_readSlice_2 N σ).1 2 5)
def u_X3_readSlice_4 (N : Nat) (σ : zS) : zS := (r_X3_readSign 59 N (u_X3_readSlice_3 N σ)).2
def r_X3_readSlice (N : Nat) (σ : zS) : Int32 × zS := if ((r_X3_readFirstTold 4 N σ).1) = 0 then (0, (u_X3_readSlice_1 N σ)) else (if ((r_X3_readNumber 1 50 N (u_X3_readSlice_1 N σ)).1) = 0 then (0, (u_X3_readSlice_2 N σ)) else ((r_X3_readSign 59 N (u_X3_readSlice_3 N σ)).1, (u_X3_readSlice_4 N σ)))
def p_X3_readSlice (N : Nat) (σ : zS) : Prop := p_X3_readFirstTold 4 N σ ∧ (¬ ((r_X3_readFirstTold 4 N σ).1) = 0 → (p_X3_readNumber 1 50 N (u_X3_readSlice_1 N σ) ∧ (¬ ((r_X3_readNumber 1 50 N (u_X3_readSlice_1 N σ)).1) = 0 → (((u_X3_readSlice_2 N σ).2 2 1 ≠ 0 ∧ zlay ((u_X3_readSlice_2 N σ).2 2 1 - 1) = (2, 16)) ∧ p_X3_readSign 59 N (u_X3_readSlice_3 N σ)))))
set_option maxRecDepth 100000 in
set_option maxHeartbeats 1000000 in
theorem c_X3_readSlice {nx : Nat} (N : Nat) (σ : zS) (hp : p_X3_readSlice N σ) : zCl 10 zall nx zall nx 31 [.inr (3, 12, 2)] σ (fun v σ1 => v = some (.inl ((r_X3_readSlice N σ).1)) ∧ σ1 = (r_X3_readSlice N σ).2) := by
  refine zmeth (cd := kX3_readSlice) [] 1000 (Nat.le_of_ble_eq_true rfl) rfl okX3_readSlice (Nat.le_refl _) (Nat.le_of_ble_eq_true rfl) ?_
  refine zCl.use (c_X3_readFirstTold 4 N σ hp.1) (Nat.le_of_ble_eq_true rfl) ?_
  rintro _ σz ⟨rfl, hz⟩
  subst σz
  refine And.intro (fun (h1 : ((r_X3_readFirstTold 4 N σ).1) = 0) => ?_) (fun (h1 : ¬ ((r_X3_readFirstTold 4 N σ).1) = 0) => ?_)
  · exact And.intro rfl (And.intro rfl (And.intro (Or.inl rfl) ⟨by rw [r_X3_readSlice, if_pos h1] <;> rfl, by rw [r_X3_readSlice, if_pos h1] <;> rfl⟩))
  · refine zCl.use (c_X3_readNumber 1 50 N (u_X3_readSlice_1 N σ) (hp.2 h1).1) (Nat.le_of_ble_eq_true rfl) ?_
    rintro _ σz ⟨rfl, hz⟩
    subst σz
    refine And.intro (fun (h2 : ¬ ((r_X3_readNumber 1 50 N (u_X3_readSlice_1 N σ)).1) = 0) => ?_) (fun (h2 : ((r_X3_readNumber 1 50 N (u_X3_readSlice_1 N σ)).1) = 0) => ?_)
    · refine And.intro ((hp.2 h1).2 h2).1.1 (fun q903 (e3 : (u_X3_readSlice_2 N σ).2 2 1 = q903 + 1) => ?_)
      have g3 : q903 = ((u_X3_readSlice_2 N σ).2 2 1 - 1) := by omega
      subst g3
      rw [((hp.2 h1).2 h2).1.2]
      refine zCl.use (c_X3_readSign 59 N (u_X3_readSlice_3 N σ) ((hp.2 h1).2 h2).2) (Nat.le_of_ble_eq_true rfl) ?_
      rintro _ σz ⟨rfl, hz⟩
      subst σz
      exact And.intro rfl (And.intro rfl (And.intro b_X3_readSign ⟨by rw [r_X3_readSlice, if_neg h1, if_neg h2] <;> rfl, by rw [r_X3_readSlice, if_neg h1, if_neg h2] <;> rfl⟩))
    · exact And.intro rfl (And.intro rfl (And.intro (Or.inl rfl) ⟨by rw [r_X3_readSlice, if_neg h1, if_pos h2] <;> rfl, by rw [r_X3_readSlice, if_neg h1, if_pos h2] <;> rfl⟩))
theorem b_X3_readSlice {N : Nat} {σ : zS} : (r_X3_readSlice N σ).1 = 0 ∨ (r_X3_readSlice N σ).1 = 1 := by
  unfold r_X3_readSlice
  (repeat' split) <;> first | exact Or.inl rfl | exact Or.inr rfl | exact b_X3_readSign
def u_X3_readPrice_1 (N : Nat) (σ : zS) : zS := (r_X3_readFirstTold 8 N σ).2
def u_X3_readPrice_2 (N : Nat) (σ : zS) : zS := (r_X3_readNumber 0 99 N (u_X3_readPrice_1 N σ)).2
def u_X3_readPrice_3 (N : Nat) (σ : zS) : zS := zuI (u_X3_readPrice_2 N σ) ((u_X3_readPrice_2 N σ).2 2 1 - 1) 4 ((u_X3_readPrice_2 N σ).1 2 5)
def u_X3_readPrice_4 (N : Nat) (σ : zS) : zS := (r_X3_readNumber 0 99 N (u_X3_readPrice_3 N σ)).2
def u_X3_readPrice_5 (N : Nat) (σ : zS) : zS := zuI (u_X3_readPrice_4 N σ) ((u_X3_readPrice_4 N σ).2 2 1 - 1) 5 ((u_X3_readPrice_4 N σ).1 2 5)
def u_X3_readPrice_6 (N : Nat) (σ : zS) : zS := (r_X3_readSign 59 N (u_X3_readPrice_5 N σ)).2
def r_X3_readPrice (N : Nat) (σ : zS) : Int32 × zS := if ((r_X3_readFirstTold 8 N σ).1) = 0 then (0, (u_X3_readPrice_1 N σ)) else (if ((r_X3_readNumber 0 99 N (u_X3_readPrice_1 N σ)).1) = 0 then (0, (u_X3_readPrice_2 N σ)) else (if ((r_X3_readNumber 0 99 N (u_X3_readPrice_3 N σ)).1) = 0 then (0, (u_X3_readPrice_4 N σ)) else ((r_X3_readSign 59 N (u_X3_readPrice_5 N σ)).1, (u_X3_readPrice_6 N σ))))
def p_X3_readPrice (N : Nat) (σ : zS) : Prop := p_X3_readFirstTold 8 N σ ∧ (¬ ((r_X3_readFirstTold 8 N σ).1) = 0 → (p_X3_readNumber 0 99 N (u_X3_readPrice_1 N σ) ∧ (¬ ((r_X3_readNumber 0 99 N (u_X3_readPrice_1 N σ)).1) = 0 → (((u_X3_readPrice_2 N σ).2 2 1 ≠ 0 ∧ zlay ((u_X3_readPrice_2 N σ).2 2 1 - 1) = (2, 16)) ∧ (p_X3_readNumber 0 99 N (u_X3_readPrice_3 N σ) ∧ (¬ ((r_X3_readNumber 0 99 N (u_X3_readPrice_3 N σ)).1) = 0 → (((u_X3_readPrice_4 N σ).2 2 1 ≠ 0 ∧ zlay ((u_X3_readPrice_4 N σ).2 2 1 - 1) = (2, 16)) ∧ p_X3_readSign 59 N (u_X3_readPrice_5 N σ))))))))
set_option maxRecDepth 100000 in
set_option maxHeartbeats 1000000 in
theorem c_X3_readPrice {nx : Nat} (N : Nat) (σ : zS) (hp : p_X3_readPrice N σ) : zCl 10 zall nx zall nx 32 [.inr (3, 12, 2)] σ (fun v σ1 => v = some (.inl ((r_X3_readPrice N σ).1)) ∧ σ1 = (r_X3_readPrice N σ).2) := by
  refine zmeth (cd := kX3_readPrice) [] 1000 (Nat.le_of_ble_eq_true rfl) rfl okX3_readPrice (Nat.le_refl _) (Nat.le_of_ble_eq_true rfl) ?_
  refine zCl.use (c_X3_readFirstTold 8 N σ hp.1) (Nat.le_of_ble_eq_true rfl) ?_
  rintro _ σz ⟨rfl, hz⟩
  subst σz
  refine And.intro (fun (h1 : ((r_X3_readFirstTold 8 N σ).1) = 0) => ?_) (fun (h1 : ¬ ((r_X3_readFirstTold 8 N σ).1) = 0) => ?_)
  · exact And.intro rfl (And.intro rfl (And.intro (Or.inl rfl) ⟨by rw [r_X3_readPrice, if_pos h1] <;> rfl, by rw [r_X3_readPrice, if_pos h1] <;> rfl⟩))
  · refine zCl.use (c_X3_readNumber 0 99 N (u_X3_readPrice_1 N σ) (hp.2 h1).1) (Nat.le_of_ble_eq_true rfl) ?_
    rintro _ σz ⟨rfl, hz⟩
    subst σz
    refine And.intro (fun (h2 : ¬ ((r_X3_readNumber 0 99 N (u_X3_readPrice_1 N σ)).1) = 0) => ?_) (fun (h2 : ((r_X3_readNumber 0 99 N (u_X3_readPrice_1 N σ)).1) = 0) => ?_)
    · refine And.intro ((hp.2 h1).2 h2).1.1 (fun q903 (e3 : (u_X3_readPrice_2 N σ).2 2 1 = q903 + 1) => ?_)
      have g3 : q903 = ((u_X3_readPrice_2 N σ).2 2 1 - 1) := by omega
      subst g3
      rw [((hp.2 h1).2 h2).1.2]
      refine zCl.use (c_X3_readNumber 0 99 N (u_X3_readPrice_3 N σ) ((hp.2 h1).2 h2).2.1) (Nat.le_of_ble_eq_true rfl) ?_
      rintro _ σz ⟨rfl, hz⟩
      subst σz
      refine And.intro (fun (h4 : ¬ ((r_X3_readNumber 0 99 N (u_X3_readPrice_3 N σ)).1) = 0) => ?_) (fun (h4 : ((r_X3_readNumber 0 99 N (u_X3_readPrice_3 N σ)).1) = 0) => ?_)
      · refine And.intro (((hp.2 h1).2 h2).2.2 h4).1.1 (fun q905 (e5 : (u_X3_readPrice_4 N σ).2 2 1 = q905 + 1) => ?_)
        have g5 : q905 = ((u_X3_readPrice_4 N σ).2 2 1 - 1) := by omega
        subst g5
        rw [(((hp.2 h1).2 h2).2.2 h4).1.2]
        refine zCl.use (c_X3_readSign 59 N (u_X3_readPrice_5 N σ) (((hp.2 h1).2 h2).2.2 h4).2) (Nat.le_of_ble_eq_true rfl) ?_
        rintro _ σz ⟨rfl, hz⟩
        subst σz
        exact And.intro rfl (And.intro rfl (And.intro b_X3_readSign ⟨by rw [r_X3_readPrice, if_neg h1, if_neg h2, if_neg h4] <;> rfl, by rw [r_X3_readPrice, if_neg h1, if_neg h2, if_neg h4] <;> rfl⟩))
      · exact And.intro rfl (And.intro rfl (And.intro (Or.inl rfl) ⟨by rw [r_X3_readPrice, if_neg h1, if_neg h2, if_pos h4] <;> rfl, by rw [r_X3_readPrice, if_neg h1, if_neg h2, if_pos h4] <;> rfl⟩))
    · exact And.intro rfl (And.intro rfl (And.intro (Or.inl rfl) ⟨by rw [r_X3_readPrice, if_neg h1, if_pos h2] <;> rfl, by rw [r_X3_readPrice, if_neg h1, if_pos h2] <;> rfl⟩))
theorem b_X3_readPrice {N : Nat} {σ : zS} : (r_X3_readPrice N σ).1 = 0 ∨ (r_X3_readPrice N σ).1 = 1 := by
  unfold r_X3_readPrice
  by_cases h1 : ((r_X3_readFirstTold 8 N σ).1) = 0
  · rw [if_pos h1]
    exact Or.inl rfl
  · rw [if_neg h1]
    by_cases h2 : ((r_X3_readNumber 0 99 N (u_X3_readPrice_1 N σ)).1) = 0
    · rw [if_pos h2]
      exact Or.inl rfl
    · rw [if_neg h2]
      by_cases h3 : ((r_X3_readNumber 0 99 N (u_X3_readPrice_3 N σ)).1) = 0
      · rw [if_pos h3]
        exact Or.inl rfl
      · rw [if_neg h3]
        exact b_X3_readSign
def u_X3_readTask_h0_1 (N : Nat) (v1 : Int32) (v2 : Int32) (σ : zS) : zS := zuI σ (σ.2 2 1 - 1) 7 ((σ.1 (σ.2 2 1 - 1) 7) + 1)
def u_X3_readTask_h0_2 (N : Nat) (v1 : Int32) (v2 : Int32) (σ : zS) : zS := (r_X3_readTaskEnd N (u_X3_readTask_h0_1 N v1 v2 σ)).2
def u_X3_readTask_h0_3 (N : Nat) (v1 : Int32) (v2 : Int32) (σ : zS) : zS := (r_X3_readTaskNumber (((σ.1 (σ.2 2 1 - 1) 7) * 4) + v2) N σ).2
def l_X3_readTask (N : Nat) : Nat → Int32 → Int32 → zS → Int32 × zS
  | 0, _, _, σ => (0, σ)
  | n + 1, v1, v2, σ => if (f_X8_at 6 ((σ.2 2 1 - 1) + 2) v1 σ) ≤ v2 then ((r_X3_readTaskEnd N (u_X3_readTask_h0_1 N v1 v2 σ)).1, (u_X3_readTask_h0_2 N v1 v2 σ)) else (if ((r_X3_readTaskNumber (((σ.1 (σ.2 2 1 - 1) 7) * 4) + v2) N σ).1) = 0 then (0, (u_X3_readTask_h0_3 N v1 v2 σ)) else (l_X3_readTask N n v1 (v2 + 1) (u_X3_readTask_h0_3 N v1 v2 σ)))
def q_X3_readTask (N : Nat) : Nat → Int32 → Int32 → zS → Prop
  | 0, _, _, _ => False
  | n + 1, v1, v2, σ => (σ.2 2 1 ≠ 0 ∧ zlay (σ.2 2 1 - 1) = (2, 16)) ∧ (p_X8_at 6 ((σ.2 2 1 - 1) + 2) v1 σ ∧ (((f_X8_at 6 ((σ.2 2 1 - 1) + 2) v1 σ) ≤ v2 → p_X3_readTaskEnd N (u_X3_readTask_h0_1 N v1 v2 σ)) ∧ (¬ (f_X8_at 6 ((σ.2 2 1 - 1) + 2) v1 σ) ≤ v2 → (p_X3_readTaskNumber (((σ.1 (σ.2 2 1 - 1) 7) * 4) + v2) N σ ∧ (¬ ((r_X3_readTaskNumber (((σ.1 (σ.2 2 1 - 1) 7) * 4) + v2) N σ).1) = 0 → q_X3_readTask N n v1 (v2 + 1) (u_X3_readTask_h0_3 N v1 v2 σ))))))
set_option maxRecDepth 100000 in
set_option maxHeartbeats 1000000 in
theorem w_X3_readTask {nx : Nat} (N : Nat) : ∀ n : Nat, (∀ (v1 : Int32) (v2 : Int32) (σ : zS), q_X3_readTask N n v1 v2 σ → zWp 11 zall nx 41 (fun v σ1 => v = some (.inl ((l_X3_readTask N n v1 v2 σ).1)) ∧ σ1 = (l_X3_readTask N n v1 v2 σ).2) zall nx 113 [some (.inr (3, 12, 2)), some (.inl v1), some (.inl v2)] [] σ) := by
  intro n
  induction n with
  | zero => exact fun _ _ _ h => h.elim
  | succ n ih =>
    intro v1 v2 σ hp
    rw [q_X3_readTask] at hp
    refine zvc_sound (cd := kX3_readTask) (cs := [113]) rfl okX3_readTask 1000 _ _ 113 (zseek kX3_readTask 113) _ _ _ zseek_sub ?_
    refine And.intro hp.1.1 (fun q901 (e1 : σ.2 2 1 = q901 + 1) => ?_)
    have g1 : q901 = (σ.2 2 1 - 1) := by omega
    subst g1
    rw [hp.1.2]
    refine zCl.use (c_X8_at 6 ((σ.2 2 1 - 1) + 2) v1 σ hp.2.1) (Nat.le_of_ble_eq_true rfl) ?_
    rintro _ σz ⟨rfl, hz⟩
    subst σz
    refine And.intro (fun (h2 : (f_X8_at 6 ((σ.2 2 1 - 1) + 2) v1 σ) ≤ v2) => ?_) (fun (h2 : ¬ (f_X8_at 6 ((σ.2 2 1 - 1) + 2) v1 σ) ≤ v2) => ?_)
    · refine And.intro hp.1.1 (fun q903 (e3 : σ.2 2 1 = q903 + 1) => ?_)
      have g3 : q903 = (σ.2 2 1 - 1) := by omega
      subst g3
      rw [hp.1.2]
      refine zCl.use (c_X3_readTaskEnd N (u_X3_readTask_h0_1 N v1 v2 σ) (hp.2.2.1 h2)) (Nat.le_of_ble_eq_true rfl) ?_
      rintro _ σz ⟨rfl, hz⟩
      subst σz
      exact And.intro rfl (And.intro rfl (And.intro b_X3_readTaskEnd ⟨by rw [l_X3_readTask, if_pos h2] <;> rfl, by rw [l_X3_readTask, if_pos h2] <;> rfl⟩))
    · refine And.intro hp.1.1 (fun q904 (e4 : σ.2 2 1 = q904 + 1) => ?_)
      have g4 : q904 = (σ.2 2 1 - 1) := by omega
      subst g4
      rw [hp.1.2]
      refine zCl.use (c_X3_readTaskNumber (((σ.1 (σ.2 2 1 - 1) 7) * 4) + v2) N σ (hp.2.2.2 h2).1) (Nat.le_of_ble_eq_true rfl) ?_
      rintro _ σz ⟨rfl, hz⟩
      subst σz
      refine And.intro (fun (h5 : ¬ ((r_X3_readTaskNumber (((σ.1 (σ.2 2 1 - 1) 7) * 4) + v2) N σ).1) = 0) => ?_) (fun (h5 : ((r_X3_readTaskNumber (((σ.1 (σ.2 2 1 - 1) 7) * 4) + v2) N σ).1) = 0) => ?_)
      · refine zWp.use (ih v1 (v2 + 1) (u_X3_readTask_h0_3 N v1 v2 σ) ((hp.2.2.2 h2).2 h5)) (And.intro rfl (And.intro rfl (And.intro rfl trivial))) (fun vy σy hy => ?_)
        rw [l_X3_readTask, if_neg h2, if_neg h5]; exact hy
      · exact And.intro rfl (And.intro rfl (And.intro (Or.inl rfl) ⟨by rw [l_X3_readTask, if_neg h2, if_pos h5] <;> rfl, by rw [l_X3_readTask, if_neg h2, if_pos h5] <;> rfl⟩))
def u_X3_readTask_1 (N : Nat) (σ : zS) : zS := s_X6_next N σ
def u_X3_readTask_2 (N : Nat) (σ : zS) : zS := s_X6_next N (u_X3_readTask_1 N σ)
def u_X3_readTask_3 (N : Nat) (σ : zS) : zS := s_X8_put 4 (((u_X3_readTask_2 N σ).2 2 1 - 1) + 3) ((u_X3_readTask_2 N σ).1 ((u_X3_readTask_2 N σ).2 2 1 - 1) 7) (f_X3_functionNamed ((u_X3_readTask_1 N σ).1 3 3) ((u_X3_readTask_1 N σ).1 3 4) N (u_X3_readTask_1 N σ)) (u_X3_readTask_2 N σ)
def u_X3_readTask_4 (N : Nat) (σ : zS) : zS := (r_X3_refuse 4 ((u_X3_readTask_1 N σ).1 3 3) (u_X3_readTask_1 N σ)).2
def u_X3_readTask_5 (N : Nat) (σ : zS) : zS := (r_X3_refuseToken (u_X3_readTask_1 N σ)).2
def u_X3_readTask_6 (N : Nat) (σ : zS) : zS := (r_X3_refuse 5 (σ.1 3 3) σ).2
def r_X3_readTask (N : Nat) (σ : zS) : Int32 × zS := if (σ.1 (σ.2 2 1 - 1) 7) < 4 then (if ((u_X3_readTask_1 N σ).1 3 2) = 303 then (if (f_X3_functionNamed ((u_X3_readTask_1 N σ).1 3 3) ((u_X3_readTask_1 N σ).1 3 4) N (u_X3_readTask_1 N σ)) = (-1) then ((r_X3_refuse 4 ((u_X3_readTask_1 N σ).1 3 3) (u_X3_readTask_1 N σ)).1, (u_X3_readTask_4 N σ)) else (l_X3_readTask N N (f_X3_functionNamed ((u_X3_readTask_1 N σ).1 3 3) ((u_X3_readTask_1 N σ).1 3 4) N (u_X3_readTask_1 N σ)) 0 (u_X3_readTask_3 N σ))) else ((r_X3_refuseToken (u_X3_readTask_1 N σ)).1, (u_X3_readTask_5 N σ))) else ((r_X3_refuse 5 (σ.1 3 3) σ).1, (u_X3_readTask_6 N σ))
def p_X3_readTask (N : Nat) (σ : zS) : Prop := (σ.2 2 1 ≠ 0 ∧ zlay (σ.2 2 1 - 1) = (2, 16)) ∧ ((σ.1 (σ.2 2 1 - 1) 7) < 4 → (p_X6_next N σ ∧ (((u_X3_readTask_1 N σ).1 3 2) = 303 → (p_X3_functionNamed ((u_X3_readTask_1 N σ).1 3 3) ((u_X3_readTask_1 N σ).1 3 4) N (u_X3_readTask_1 N σ) ∧ (¬ (f_X3_functionNamed ((u_X3_readTask_1 N σ).1 3 3) ((u_X3_readTask_1 N σ).1 3 4) N (u_X3_readTask_1 N σ)) = (-1) → (p_X6_next N (u_X3_readTask_1 N σ) ∧ (((u_X3_readTask_2 N σ).2 2 1 ≠ 0 ∧ zlay ((u_X3_readTask_2 N σ).2 2 1 - 1) = (2, 16)) ∧ (p_X8_put 4 (((u_X3_readTask_2 N σ).2 2 1 - 1) + 3) ((u_X3_readTask_2 N σ).1 ((u_X3_readTask_2 N σ).2 2 1 - 1) 7) (f_X3_functionNamed ((u_X3_readTask_1 N σ).1 3 3) ((u_X3_readTask_1 N σ).1 3 4) N (u_X3_readTask_1 N σ)) (u_X3_readTask_2 N σ) ∧ q_X3_readTask N N (f_X3_functionNamed ((u_X3_readTask_1 N σ).1 3 3) ((u_X3_readTask_1 N σ).1 3 4) N (u_X3_readTask_1 N σ)) 0 (u_X3_readTask_3 N σ)))))))))
set_option maxRecDepth 100000 in
set_option maxHeartbeats 1000000 in
theorem c_X3_readTask {nx : Nat} (N : Nat) (σ : zS) (hp : p_X3_readTask N σ) : zCl 11 zall nx zall nx 41 [.inr (3, 12, 2)] σ (fun v σ1 => v = some (.inl ((r_X3_readTask N σ).1)) ∧ σ1 = (r_X3_readTask N σ).2) := by
  refine zmeth (cd := kX3_readTask) [113] 1000 (Nat.le_of_ble_eq_true rfl) rfl okX3_readTask (Nat.le_refl _) (Nat.le_of_ble_eq_true rfl) ?_
  refine And.intro hp.1.1 (fun q901 (e1 : σ.2 2 1 = q901 + 1) => ?_)
  have g1 : q901 = (σ.2 2 1 - 1) := by omega
  subst g1
  rw [hp.1.2]
  refine And.intro (fun (h2 : (σ.1 (σ.2 2 1 - 1) 7) < 4) => ?_) (fun (h2 : ¬ (σ.1 (σ.2 2 1 - 1) 7) < 4) => ?_)
  · refine zCl.use (c_X6_next N σ (hp.2 h2).1) (Nat.le_of_ble_eq_true rfl) ?_
    rintro _ σz ⟨rfl, hz⟩
    subst σz
    refine And.intro (fun (h3 : ((u_X3_readTask_1 N σ).1 3 2) = 303) => ?_) (fun (h3 : ¬ ((u_X3_readTask_1 N σ).1 3 2) = 303) => ?_)
    · refine zCl.use (c_X3_functionNamed ((u_X3_readTask_1 N σ).1 3 3) ((u_X3_readTask_1 N σ).1 3 4) N (u_X3_readTask_1 N σ) ((hp.2 h2).2 h3).1) (Nat.le_of_ble_eq_true rfl) ?_
      rintro _ σz ⟨rfl, hz⟩
      subst σz
      refine And.intro (fun (h4 : ¬ (f_X3_functionNamed ((u_X3_readTask_1 N σ).1 3 3) ((u_X3_readTask_1 N σ).1 3 4) N (u_X3_readTask_1 N σ)) = (-1)) => ?_) (fun (h4 : (f_X3_functionNamed ((u_X3_readTask_1 N σ).1 3 3) ((u_X3_readTask_1 N σ).1 3 4) N (u_X3_readTask_1 N σ)) = (-1)) => ?_)
      · refine zCl.use (c_X6_next N (u_X3_readTask_1 N σ) (((hp.2 h2).2 h3).2 h4).1) (Nat.le_of_ble_eq_true rfl) ?_
        rintro _ σz ⟨rfl, hz⟩
        subst σz
        refine And.intro (((hp.2 h2).2 h3).2 h4).2.1.1 (fun q905 (e5 : (u_X3_readTask_2 N σ).2 2 1 = q905 + 1) => ?_)
        have g5 : q905 = ((u_X3_readTask_2 N σ).2 2 1 - 1) := by omega
        subst g5
        rw [(((hp.2 h2).2 h3).2 h4).2.1.2]
        refine And.intro (((hp.2 h2).2 h3).2 h4).2.1.1 (fun q906 (e6 : (u_X3_readTask_2 N σ).2 2 1 = q906 + 1) => ?_)
        have g6 : q906 = ((u_X3_readTask_2 N σ).2 2 1 - 1) := by omega
        subst g6
        rw [(((hp.2 h2).2 h3).2 h4).2.1.2]
        refine zCl.use (c_X8_put 4 (((u_X3_readTask_2 N σ).2 2 1 - 1) + 3) ((u_X3_readTask_2 N σ).1 ((u_X3_readTask_2 N σ).2 2 1 - 1) 7) (f_X3_functionNamed ((u_X3_readTask_1 N σ).1 3 3) ((u_X3_readTask_1 N σ).1 3 4) N (u_X3_readTask_1 N σ)) (u_X3_readTask_2 N σ) (((hp.2 h2).2 h3).2 h4).2.2.1) (Nat.le_of_ble_eq_true rfl) ?_
        rintro _ σz ⟨rfl, hz⟩
        subst σz
        refine zWp.use ((w_X3_readTask N N) (f_X3_functionNamed ((u_X3_readTask_1 N σ).1 3 3) ((u_X3_readTask_1 N σ).1 3 4) N (u_X3_readTask_1 N σ)) 0 (u_X3_readTask_3 N σ) (((hp.2 h2).2 h3).2 h4).2.2.2) (And.intro rfl (And.intro rfl (And.intro rfl trivial))) (fun vy σy hy => ?_)
        rw [r_X3_readTask, if_pos h2, if_pos h3, if_neg h4]; exact hy
      · refine zCl.use (c_X3_refuse 4 ((u_X3_readTask_1 N σ).1 3 3) (u_X3_readTask_1 N σ)) (Nat.le_of_ble_eq_true rfl) ?_
        rintro _ σz ⟨rfl, hz⟩
        subst σz
        exact And.intro rfl (And.intro rfl (And.intro b_X3_refuse ⟨by rw [r_X3_readTask, if_pos h2, if_pos h3, if_pos h4] <;> rfl, by rw [r_X3_readTask, if_pos h2, if_pos h3, if_pos h4] <;> rfl⟩))
    · refine zCl.use (c_X3_refuseToken (u_X3_readTask_1 N σ)) (Nat.le_of_ble_eq_true rfl) ?_
      rintro _ σz ⟨rfl, hz⟩
      subst σz
      exact And.intro rfl (And.intro rfl (And.intro b_X3_refuseToken ⟨by rw [r_X3_readTask, if_pos h2, if_neg h3] <;> rfl, by rw [r_X3_readTask, if_pos h2, if_neg h3] <;> rfl⟩))
  · refine zCl.use (c_X3_refuse 5 (σ.1 3 3) σ) (Nat.le_of_ble_eq_true rfl) ?_
    rintro _ σz ⟨rfl, hz⟩
    subst σz
    exact And.intro rfl (And.intro rfl (And.intro b_X3_refuse ⟨by rw [r_X3_readTask, if_neg h2] <;> rfl, by rw [r_X3_readTask, if_neg h2] <;> rfl⟩))
def u_X9_readDef_h0_1 (N : Nat) (v1 : Int32) (v2 : Int32) (σ : zS) : zS := s_X9_scan N σ
def u_X9_readDef_h0_2 (N : Nat) (v1 : Int32) (v2 : Int32) (σ : zS) : zS := s_X9_fail 3 (u_X9_readDef_h0_1 N v1 v2 σ)
def u_X9_readDef_h0_3 (N : Nat) (v1 : Int32) (v2 : Int32) (σ : zS) : zS := s_X9_fail 1 (u_X9_readDef_h0_1 N v1 v2 σ)
def u_X9_readDef_h1_1 (N : Nat) (v1 : Int32) (v2 : Int32) (σ : zS) : zS := s_X9_keepName (σ.1 476 (v1).toNatClampNeg) σ
def u_X9_readDef_h1_2 (N : Nat) (v1 : Int32) (v2 : Int32) (σ : zS) : zS := s_X9_scan N (u_X9_readDef_h1_1 N v1 v2 σ)
def u_X9_readDef_h1_3 (N : Nat) (v1 : Int32) (v2 : Int32) (σ : zS) : zS := zuI (u_X9_readDef_h1_2 N v1 v2 σ) 468 32 0
def u_X9_readDef_h2_1 (N : Nat) (v1 : Int32) (v2 : Int32) (σ : zS) : zS := s_X9_need 61 N σ
def u_X9_readDef_h2_2 (N : Nat) (v1 : Int32) (v2 : Int32) (σ : zS) : zS := zuI (u_X9_readDef_h2_1 N v1 v2 σ) 481 ((6 * v1) + v2).toNatClampNeg ((u_X9_readDef_h2_1 N v1 v2 σ).1 468 32)
def u_X9_readDef_h2_3 (N : Nat) (v1 : Int32) (v2 : Int32) (σ : zS) : zS := zuI (u_X9_readDef_h2_2 N v1 v2 σ) 480 ((6 * v1) + v2).toNatClampNeg ((u_X9_readDef_h2_2 N v1 v2 σ).1 479 (v1).toNatClampNeg)
def u_X9_readDef_h2_4 (N : Nat) (v1 : Int32) (v2 : Int32) (σ : zS) : zS := zuI (u_X9_readDef_h2_3 N v1 v2 σ) 476 (v1).toNatClampNeg (((u_X9_readDef_h2_3 N v1 v2 σ).1 476 (v1).toNatClampNeg) + 1)
def u_X9_readDef_h2_5 (N : Nat) (v1 : Int32) (v2 : Int32) (σ : zS) : zS := s_X9_readBody v1 N (u_X9_readDef_h2_4 N v1 v2 σ)
def u_X9_readDef_h2_6 (N : Nat) (v1 : Int32) (v2 : Int32) (σ : zS) : zS := s_X9_lay v1 13 0 (u_X9_readDef_h2_5 N v1 v2 σ)
def u_X9_readDef_h2_7 (N : Nat) (v1 : Int32) (v2 : Int32) (σ : zS) : zS := s_X9_fail 5 σ
def u_X9_readDef_h3_1 (N : Nat) (v1 : Int32) (v2 : Int32) (σ : zS) : zS := s_X9_fail 3 σ
def u_X9_readDef_h4_1 (N : Nat) (v1 : Int32) (v2 : Int32) (σ : zS) : zS := s_X9_keepName (6 + (σ.1 468 32)) σ
def u_X9_readDef_h4_2 (N : Nat) (v1 : Int32) (v2 : Int32) (σ : zS) : zS := zuI (u_X9_readDef_h4_1 N v1 v2 σ) 468 32 (((u_X9_readDef_h4_1 N v1 v2 σ).1 468 32) + 1)
def u_X9_readDef_h4_3 (N : Nat) (v1 : Int32) (v2 : Int32) (σ : zS) : zS := s_X9_scan N (u_X9_readDef_h4_2 N v1 v2 σ)
def l_X9_readDef (N : Nat) : Nat → Nat → Int32 → Int32 → zS → zS
  | 0, _, _, _, σ => σ
  | n + 1, 0, v1, v2, σ => if (σ.1 468 25) ≤ 0 then (if (f_X9_isName (u_X9_readDef_h0_1 N v1 v2 σ)) = 0 then (l_X9_readDef N n 1 v1 0 (u_X9_readDef_h0_3 N v1 v2 σ)) else (if (f_X9_functionHere ((u_X9_readDef_h0_1 N v1 v2 σ).1 476 (v1).toNatClampNeg) N (u_X9_readDef_h0_1 N v1 v2 σ)) < 0 then (l_X9_readDef N n 1 v1 0 (u_X9_readDef_h0_1 N v1 v2 σ)) else (l_X9_readDef N n 1 v1 0 (u_X9_readDef_h0_2 N v1 v2 σ)))) else σ
  | n + 1, 1, v1, v2, σ => if (σ.1 468 25) ≤ 0 then (l_X9_readDef N n 2 v1 (σ.1 476 (v1).toNatClampNeg) (u_X9_readDef_h1_3 N v1 v2 σ)) else σ
  | n + 1, 2, v1, v2, σ => if (f_X9_isName σ) = 0 then (u_X9_readDef_h2_6 N v1 v2 σ) else (if 0 ≤ (f_X9_functionHere (v2 + 1) N σ) then (l_X9_readDef N n 3 v1 v2 σ) else (if (f_X9_parameterHere N σ) < 0 then (if (σ.1 468 32) = 4 then (l_X9_readDef N n 4 v1 v2 (u_X9_readDef_h2_7 N v1 v2 σ)) else (l_X9_readDef N n 4 v1 v2 σ)) else (l_X9_readDef N n 3 v1 v2 σ)))
  | n + 1, 3, v1, v2, σ => l_X9_readDef N n 4 v1 v2 (u_X9_readDef_h3_1 N v1 v2 σ)
  | n + 1, 4, v1, v2, σ => if (σ.1 468 25) ≤ 0 then (l_X9_readDef N n 2 v1 v2 (u_X9_readDef_h4_3 N v1 v2 σ)) else σ
  | _ + 1, _, _, _, σ => σ
def q_X9_readDef (N : Nat) : Nat → Nat → Int32 → Int32 → zS → Prop
  | 0, _, _, _, _ => False
  | n + 1, 0, v1, v2, σ => (σ.1 468 25) ≤ 0 → (p_X9_scan N σ ∧ ((¬ (f_X9_isName (u_X9_readDef_h0_1 N v1 v2 σ)) = 0 → (vp_in v1 2 ∧ (p_X9_functionHere ((u_X9_readDef_h0_1 N v1 v2 σ).1 476 (v1).toNatClampNeg) N (u_X9_readDef_h0_1 N v1 v2 σ) ∧ (((f_X9_functionHere ((u_X9_readDef_h0_1 N v1 v2 σ).1 476 (v1).toNatClampNeg) N (u_X9_readDef_h0_1 N v1 v2 σ)) < 0 → q_X9_readDef N n 1 v1 0 (u_X9_readDef_h0_1 N v1 v2 σ)) ∧ (¬ (f_X9_functionHere ((u_X9_readDef_h0_1 N v1 v2 σ).1 476 (v1).toNatClampNeg) N (u_X9_readDef_h0_1 N v1 v2 σ)) < 0 → q_X9_readDef N n 1 v1 0 (u_X9_readDef_h0_2 N v1 v2 σ)))))) ∧ ((f_X9_isName (u_X9_readDef_h0_1 N v1 v2 σ)) = 0 → q_X9_readDef N n 1 v1 0 (u_X9_readDef_h0_3 N v1 v2 σ))))
  | n + 1, 1, v1, v2, σ => (σ.1 468 25) ≤ 0 → (vp_in v1 2 ∧ (p_X9_keepName (σ.1 476 (v1).toNatClampNeg) σ ∧ (p_X9_scan N (u_X9_readDef_h1_1 N v1 v2 σ) ∧ q_X9_readDef N n 2 v1 (σ.1 476 (v1).toNatClampNeg) (u_X9_readDef_h1_3 N v1 v2 σ))))
  | n + 1, 2, v1, v2, σ => ((f_X9_isName σ) = 0 → (p_X9_need 61 N σ ∧ (vp_in ((6 * v1) + v2) 12 ∧ (vp_in v1 2 ∧ (p_X9_readBody v1 N (u_X9_readDef_h2_4 N v1 v2 σ) ∧ p_X9_lay v1 13 0 (u_X9_readDef_h2_5 N v1 v2 σ)))))) ∧ (¬ (f_X9_isName σ) = 0 → (p_X9_functionHere (v2 + 1) N σ ∧ ((0 ≤ (f_X9_functionHere (v2 + 1) N σ) → q_X9_readDef N n 3 v1 v2 σ) ∧ (¬ 0 ≤ (f_X9_functionHere (v2 + 1) N σ) → (p_X9_parameterHere N σ ∧ (((f_X9_parameterHere N σ) < 0 → ((¬ (σ.1 468 32) = 4 → q_X9_readDef N n 4 v1 v2 σ) ∧ ((σ.1 468 32) = 4 → q_X9_readDef N n 4 v1 v2 (u_X9_readDef_h2_7 N v1 v2 σ)))) ∧ (¬ (f_X9_parameterHere N σ) < 0 → q_X9_readDef N n 3 v1 v2 σ)))))))
  | n + 1, 3, v1, v2, σ => q_X9_readDef N n 4 v1 v2 (u_X9_readDef_h3_1 N v1 v2 σ)
  | n + 1, 4, v1, v2, σ => (σ.1 468 25) ≤ 0 → (p_X9_keepName (6 + (σ.1 468 32)) σ ∧ (p_X9_scan N (u_X9_readDef_h4_2 N v1 v2 σ) ∧ q_X9_readDef N n 2 v1 v2 (u_X9_readDef_h4_3 N v1 v2 σ)))
  | _ + 1, _, _, _, _ => False
set_option maxRecDepth 100000 in
set_option maxHeartbeats 1000000 in
theorem w_X9_readDef {nx : Nat} (N : Nat) : ∀ n : Nat, (∀ (v1 : Int32) (v2 : Int32) (σ : zS), q_X9_readDef N n 0 v1 v2 σ → zWp 10 zall nx 183 (fun v σ1 => v = none ∧ σ1 = l_X9_readDef N n 0 v1 v2 σ) zall nx 16 [some (.inr (9, 57, 468)), some (.inl v1), none] [] σ) ∧ (∀ (v1 : Int32) (v2 : Int32) (σ : zS), q_X9_readDef N n 1 v1 v2 σ → zWp 10 zall nx 183 (fun v σ1 => v = none ∧ σ1 = l_X9_readDef N n 1 v1 v2 σ) zall nx 61 [some (.inr (9, 57, 468)), some (.inl v1), none] [] σ) ∧ (∀ (v1 : Int32) (v2 : Int32) (σ : zS), q_X9_readDef N n 2 v1 v2 σ → zWp 10 zall nx 183 (fun v σ1 => v = none ∧ σ1 = l_X9_readDef N n 2 v1 v2 σ) zall nx 90 [some (.inr (9, 57, 468)), some (.inl v1), some (.inl v2)] [] σ) ∧ (∀ (v1 : Int32) (v2 : Int32) (σ : zS), q_X9_readDef N n 3 v1 v2 σ → zWp 10 zall nx 183 (fun v σ1 => v = none ∧ σ1 = l_X9_readDef N n 3 v1 v2 σ) zall nx 114 [some (.inr (9, 57, 468)), some (.inl v1), some (.inl v2)] [] σ) ∧ (∀ (v1 : Int32) (v2 : Int32) (σ : zS), q_X9_readDef N n 4 v1 v2 σ → zWp 10 zall nx 183 (fun v σ1 => v = none ∧ σ1 = l_X9_readDef N n 4 v1 v2 σ) zall nx 135 [some (.inr (9, 57, 468)), some (.inl v1), some (.inl v2)] [] σ) := by
  intro n
  induction n with
  | zero => exact ⟨fun _ _ _ h => h.elim, fun _ _ _ h => h.elim, fun _ _ _ h => h.elim, fun _ _ _ h => h.elim, fun _ _ _ h => h.elim⟩
  | succ n ih =>
    refine ⟨?_, ?_, ?_, ?_, ?_⟩
    · intro v1 v2 σ hp
      rw [q_X9_readDef] at hp
      refine zvc_sound (cd := kX9_readDef) (cs := [16, 61, 90, 114, 135]) rfl okX9_readDef 1000 _ _ 16 (zseek kX9_readDef 16) _ _ _ zseek_sub ?_
      refine And.intro (fun (h1 : (σ.1 468 25) ≤ 0) => ?_) (fun (h1 : ¬ (σ.1 468 25) ≤ 0) => ?_)
      · refine zCl.use (c_X9_scan N σ (hp h1).1) (Nat.le_of_ble_eq_true rfl) ?_
        rintro _ σz ⟨rfl, hz⟩
        subst σz
        refine zCl.use (c_X9_isName (u_X9_readDef_h0_1 N v1 v2 σ)) (Nat.le_of_ble_eq_true rfl) ?_
        rintro _ σz ⟨rfl, hz⟩
        subst σz
        refine And.intro (fun (h2 : ¬ (f_X9_isName (u_X9_readDef_h0_1 N v1 v2 σ)) = 0) => ?_) (fun (h2 : (f_X9_isName (u_X9_readDef_h0_1 N v1 v2 σ)) = 0) => ?_)
        · refine And.intro ((hp h1).2.1 h2).1 ?_
          refine zCl.use (c_X9_functionHere ((u_X9_readDef_h0_1 N v1 v2 σ).1 476 (v1).toNatClampNeg) N (u_X9_readDef_h0_1 N v1 v2 σ) ((hp h1).2.1 h2).2.1) (Nat.le_of_ble_eq_true rfl) ?_
          rintro _ σz ⟨rfl, hz⟩
          subst σz
          refine And.intro (fun (h3 : (f_X9_functionHere ((u_X9_readDef_h0_1 N v1 v2 σ).1 476 (v1).toNatClampNeg) N (u_X9_readDef_h0_1 N v1 v2 σ)) < 0) => ?_) (fun (h3 : ¬ (f_X9_functionHere ((u_X9_readDef_h0_1 N v1 v2 σ).1 476 (v1).toNatClampNeg) N (u_X9_readDef_h0_1 N v1 v2 σ)) < 0) => ?_)
          · refine zWp.use (ih.2.1 v1 0 (u_X9_readDef_h0_1 N v1 v2 σ) (((hp h1).2.1 h2).2.2.1 h3)) (And.intro rfl (And.intro rfl trivial)) (fun vy σy hy => ?_)
            rw [l_X9_readDef, if_pos h1, if_neg h2, if_pos h3]; exact hy
          · refine zCl.use (c_X9_fail 3 (u_X9_readDef_h0_1 N v1 v2 σ)) (Nat.le_of_ble_eq_true rfl) ?_
            rintro _ σz ⟨rfl, hz⟩
            subst σz
            refine zWp.use (ih.2.1 v1 0 (u_X9_readDef_h0_2 N v1 v2 σ) (((hp h1).2.1 h2).2.2.2 h3)) (And.intro rfl (And.intro rfl trivial)) (fun vy σy hy => ?_)
            rw [l_X9_readDef, if_pos h1, if_neg h2, if_neg h3]; exact hy
        · refine zCl.use (c_X9_fail 1 (u_X9_readDef_h0_1 N v1 v2 σ)) (Nat.le_of_ble_eq_true rfl) ?_
          rintro _ σz ⟨rfl, hz⟩
          subst σz
          refine zWp.use (ih.2.1 v1 0 (u_X9_readDef_h0_3 N v1 v2 σ) ((hp h1).2.2 h2)) (And.intro rfl (And.intro rfl trivial)) (fun vy σy hy => ?_)
          rw [l_X9_readDef, if_pos h1, if_pos h2]; exact hy
      · exact And.intro rfl (And.intro rfl ⟨rfl, by rw [l_X9_readDef, if_neg h1] <;> rfl⟩)
    · intro v1 v2 σ hp
      rw [q_X9_readDef] at hp
      refine zvc_sound (cd := kX9_readDef) (cs := [16, 61, 90, 114, 135]) rfl okX9_readDef 1000 _ _ 61 (zseek kX9_readDef 61) _ _ _ zseek_sub ?_
      refine And.intro (fun (h1 : (σ.1 468 25) ≤ 0) => ?_) (fun (h1 : ¬ (σ.1 468 25) ≤ 0) => ?_)
      · refine And.intro (hp h1).1 ?_
        refine zCl.use (c_X9_keepName (σ.1 476 (v1).toNatClampNeg) σ (hp h1).2.1) (Nat.le_of_ble_eq_true rfl) ?_
        rintro _ σz ⟨rfl, hz⟩
        subst σz
        refine zCl.use (c_X9_scan N (u_X9_readDef_h1_1 N v1 v2 σ) (hp h1).2.2.1) (Nat.le_of_ble_eq_true rfl) ?_
        rintro _ σz ⟨rfl, hz⟩
        subst σz
        refine zWp.use (ih.2.2.1 v1 (σ.1 476 (v1).toNatClampNeg) (u_X9_readDef_h1_3 N v1 v2 σ) (hp h1).2.2.2) (And.intro rfl (And.intro rfl (And.intro rfl trivial))) (fun vy σy hy => ?_)
        rw [l_X9_readDef, if_pos h1]; exact hy
      · exact And.intro rfl (And.intro rfl ⟨rfl, by rw [l_X9_readDef, if_neg h1] <;> rfl⟩)
    · intro v1 v2 σ hp
      rw [q_X9_readDef] at hp
      refine zvc_sound (cd := kX9_readDef) (cs := [16, 61, 90, 114, 135]) rfl okX9_readDef 1000 _ _ 90 (zseek kX9_readDef 90) _ _ _ zseek_sub ?_
      refine zCl.use (c_X9_isName σ) (Nat.le_of_ble_eq_true rfl) ?_
      rintro _ σz ⟨rfl, hz⟩
      subst σz
      refine And.intro (fun (h1 : (f_X9_isName σ) = 0) => ?_) (fun (h1 : ¬ (f_X9_isName σ) = 0) => ?_)
      · refine zCl.use (c_X9_need 61 N σ (hp.1 h1).1) (Nat.le_of_ble_eq_true rfl) ?_
        rintro _ σz ⟨rfl, hz⟩
        subst σz
        refine And.intro (hp.1 h1).2.1 ?_
        refine And.intro (hp.1 h1).2.2.1 ?_
        refine And.intro (hp.1 h1).2.1 ?_
        refine And.intro (hp.1 h1).2.2.1 ?_
        refine And.intro (hp.1 h1).2.2.1 ?_
        refine zCl.use (c_X9_readBody v1 N (u_X9_readDef_h2_4 N v1 v2 σ) (hp.1 h1).2.2.2.1) (Nat.le_of_ble_eq_true rfl) ?_
        rintro _ σz ⟨rfl, hz⟩
        subst σz
        refine zCl.use (c_X9_lay v1 13 0 (u_X9_readDef_h2_5 N v1 v2 σ) (hp.1 h1).2.2.2.2) (Nat.le_of_ble_eq_true rfl) ?_
        rintro _ σz ⟨rfl, hz⟩
        subst σz
        exact And.intro rfl (And.intro rfl ⟨rfl, by rw [l_X9_readDef, if_pos h1] <;> rfl⟩)
      · refine zCl.use (c_X9_functionHere (v2 + 1) N σ (hp.2 h1).1) (Nat.le_of_ble_eq_true rfl) ?_
        rintro _ σz ⟨rfl, hz⟩
        subst σz
        refine And.intro (fun (h2 : 0 ≤ (f_X9_functionHere (v2 + 1) N σ)) => ?_) (fun (h2 : ¬ 0 ≤ (f_X9_functionHere (v2 + 1) N σ)) => ?_)
        · refine zWp.use (ih.2.2.2.1 v1 v2 σ ((hp.2 h1).2.1 h2)) (And.intro rfl (And.intro rfl (And.intro rfl trivial))) (fun vy σy hy => ?_)
          rw [l_X9_readDef, if_neg h1, if_pos h2]; exact hy
        · refine zCl.use (c_X9_parameterHere N σ ((hp.2 h1).2.2 h2).1) (Nat.le_of_ble_eq_true rfl) ?_
          rintro _ σz ⟨rfl, hz⟩
          subst σz
          refine And.intro (fun (h3 : (f_X9_parameterHere N σ) < 0) => ?_) (fun (h3 : ¬ (f_X9_parameterHere N σ) < 0) => ?_)
          · refine And.intro (fun (h4 : ¬ (σ.1 468 32) = 4) => ?_) (fun (h4 : (σ.1 468 32) = 4) => ?_)
            · refine zWp.use (ih.2.2.2.2 v1 v2 σ ((((hp.2 h1).2.2 h2).2.1 h3).1 h4)) (And.intro rfl (And.intro rfl (And.intro rfl trivial))) (fun vy σy hy => ?_)
              rw [l_X9_readDef, if_neg h1, if_neg h2, if_pos h3, if_neg h4]; exact hy
            · refine zCl.use (c_X9_fail 5 σ) (Nat.le_of_ble_eq_true rfl) ?_
              rintro _ σz ⟨rfl, hz⟩
              subst σz
              refine zWp.use (ih.2.2.2.2 v1 v2 (u_X9_readDef_h2_7 N v1 v2 σ) ((((hp.2 h1).2.2 h2).2.1 h3).2 h4)) (And.intro rfl (And.intro rfl (And.intro rfl trivial))) (fun vy σy hy => ?_)
              rw [l_X9_readDef, if_neg h1, if_neg h2, if_pos h3, if_pos h4]; exact hy
          · refine zWp.use (ih.2.2.2.1 v1 v2 σ (((hp.2 h1).2.2 h2).2.2 h3)) (And.intro rfl (And.intro rfl (And.intro rfl trivial))) (fun vy σy hy => ?_)
            rw [l_X9_readDef, if_neg h1, if_neg h2, if_neg h3]; exact hy
    · intro v1 v2 σ hp
      rw [q_X9_readDef] at hp
      refine zvc_sound (cd := kX9_readDef) (cs := [16, 61, 90, 114, 135]) rfl okX9_readDef 1000 _ _ 114 (zseek kX9_readDef 114) _ _ _ zseek_sub ?_
      refine zCl.use (c_X9_fail 3 σ) (Nat.le_of_ble_eq_true rfl) ?_
      rintro _ σz ⟨rfl, hz⟩
      subst σz
      refine zWp.use (ih.2.2.2.2 v1 v2 (u_X9_readDef_h3_1 N v1 v2 σ) hp) (And.intro rfl (And.intro rfl (And.intro rfl trivial))) (fun vy σy hy => ?_)
      rw [l_X9_readDef]; exact hy
    · intro v1 v2 σ hp
      rw [q_X9_readDef] at hp
      refine zvc_sound (cd := kX9_readDef) (cs := [16, 61, 90, 114, 135]) rfl okX9_readDef 1000 _ _ 135 (zseek kX9_readDef 135) _ _ _ zseek_sub ?_
      refine And.intro (fun (h1 : (σ.1 468 25) ≤ 0) => ?_) (fun (h1 : ¬ (σ.1 468 25) ≤ 0) => ?_)
      · refine zCl.use (c_X9_keepName (6 + (σ.1 468 32)) σ (hp h1).1) (Nat.le_of_ble_eq_true rfl) ?_
        rintro _ σz ⟨rfl, hz⟩
        subst σz
        refine zCl.use (c_X9_scan N (u_X9_readDef_h4_2 N v1 v2 σ) (hp h1).2.1) (Nat.le_of_ble_eq_true rfl) ?_
        rintro _ σz ⟨rfl, hz⟩
        subst σz
        refine zWp.use (ih.2.2.1 v1 v2 (u_X9_readDef_h4_3 N v1 v2 σ) (hp h1).2.2) (And.intro rfl (And.intro rfl (And.intro rfl trivial))) (fun vy σy hy => ?_)
        rw [l_X9_readDef, if_pos h1]; exact hy
      · exact And.intro rfl (And.intro rfl ⟨rfl, by rw [l_X9_readDef, if_neg h1] <;> rfl⟩)
def u_X9_readDef_1 (x1 : Int32) (N : Nat) (σ : zS) : zS := s_X9_fail 5 σ
def s_X9_readDef (x1 : Int32) (N : Nat) (σ : zS) : zS := if (σ.1 476 (x1).toNatClampNeg) = 6 then (l_X9_readDef N N 0 x1 0 (u_X9_readDef_1 x1 N σ)) else (l_X9_readDef N N 0 x1 0 σ)
def p_X9_readDef (x1 : Int32) (N : Nat) (σ : zS) : Prop := vp_in x1 2 ∧ ((¬ (σ.1 476 (x1).toNatClampNeg) = 6 → q_X9_readDef N N 0 x1 0 σ) ∧ ((σ.1 476 (x1).toNatClampNeg) = 6 → q_X9_readDef N N 0 x1 0 (u_X9_readDef_1 x1 N σ)))
set_option maxRecDepth 100000 in
set_option maxHeartbeats 1000000 in
theorem c_X9_readDef {nx : Nat} (x1 : Int32) (N : Nat) (σ : zS) (hp : p_X9_readDef x1 N σ) : zCl 10 zall nx zall nx 183 [.inr (9, 57, 468), .inl x1] σ (fun v σ1 => v = none ∧ σ1 = s_X9_readDef x1 N σ) := by
  refine zmeth (cd := kX9_readDef) [16, 61, 90, 114, 135] 1000 (Nat.le_of_ble_eq_true rfl) rfl okX9_readDef (Nat.le_refl _) (Nat.le_of_ble_eq_true rfl) ?_
  refine And.intro hp.1 ?_
  refine And.intro (fun (h1 : ¬ (σ.1 476 (x1).toNatClampNeg) = 6) => ?_) (fun (h1 : (σ.1 476 (x1).toNatClampNeg) = 6) => ?_)
  · refine zWp.use ((w_X9_readDef N N).1 x1 0 σ (hp.2.1 h1)) (And.intro rfl (And.intro rfl trivial)) (fun vy σy hy => ?_)
    rw [s_X9_readDef, if_neg h1]; exact hy
  · refine zCl.use (c_X9_fail 5 σ) (Nat.le_of_ble_eq_true rfl) ?_
    rintro _ σz ⟨rfl, hz⟩
    subst σz
    refine zWp.use ((w_X9_readDef N N).1 x1 0 (u_X9_readDef_1 x1 N σ) (hp.2.2 h1)) (And.intro rfl (And.intro rfl trivial)) (fun vy σy hy => ?_)
    rw [s_X9_readDef, if_pos h1]; exact hy
def u_X9_readLine_1 (x1 : Int32) (N : Nat) (σ : zS) : zS := s_X9_fail 1 σ
def u_X9_readLine_2 (x1 : Int32) (N : Nat) (σ : zS) : zS := s_X9_readTask x1 N σ
def u_X9_readLine_3 (x1 : Int32) (N : Nat) (σ : zS) : zS := s_X9_readDef x1 N σ
def u_X9_readLine_4 (x1 : Int32) (N : Nat) (σ : zS) : zS := (r_X9_isOnce 3 N σ).2
def u_X9_readLine_5 (x1 : Int32) (N : Nat) (σ : zS) : zS := (r_X9_numeral 0 99 N (u_X9_readLine_4 x1 N σ)).2
def u_X9_readLine_6 (x1 : Int32) (N : Nat) (σ : zS) : zS := zuI (u_X9_readLine_5 x1 N σ) 474 (x1).toNatClampNeg ((r_X9_numeral 0 99 N (u_X9_readLine_4 x1 N σ)).1)
def u_X9_readLine_7 (x1 : Int32) (N : Nat) (σ : zS) : zS := (r_X9_numeral 0 99 N (u_X9_readLine_6 x1 N σ)).2
def u_X9_readLine_8 (x1 : Int32) (N : Nat) (σ : zS) : zS := zuI (u_X9_readLine_7 x1 N σ) 475 (x1).toNatClampNeg ((r_X9_numeral 0 99 N (u_X9_readLine_6 x1 N σ)).1)
def u_X9_readLine_9 (x1 : Int32) (N : Nat) (σ : zS) : zS := (r_X9_isOnce 2 N σ).2
def u_X9_readLine_10 (x1 : Int32) (N : Nat) (σ : zS) : zS := (r_X9_numeral 1 50 N (u_X9_readLine_9 x1 N σ)).2
def u_X9_readLine_11 (x1 : Int32) (N : Nat) (σ : zS) : zS := zuI (u_X9_readLine_10 x1 N σ) 473 (x1).toNatClampNeg ((r_X9_numeral 1 50 N (u_X9_readLine_9 x1 N σ)).1)
def u_X9_readLine_12 (x1 : Int32) (N : Nat) (σ : zS) : zS := (r_X9_isOnce 1 N σ).2
def u_X9_readLine_13 (x1 : Int32) (N : Nat) (σ : zS) : zS := s_X9_readWay x1 N (u_X9_readLine_12 x1 N σ)
def u_X9_readLine_14 (x1 : Int32) (N : Nat) (σ : zS) : zS := (r_X9_isOnce 0 N σ).2
def u_X9_readLine_15 (x1 : Int32) (N : Nat) (σ : zS) : zS := (r_X9_numeral 2 12 N (u_X9_readLine_14 x1 N σ)).2
def u_X9_readLine_16 (x1 : Int32) (N : Nat) (σ : zS) : zS := zuI (u_X9_readLine_15 x1 N σ) 470 (x1).toNatClampNeg ((r_X9_numeral 2 12 N (u_X9_readLine_14 x1 N σ)).1)
def s_X9_readLine (x1 : Int32) (N : Nat) (σ : zS) : zS := if (f_X9_isWord 0 σ) = 0 then (if (f_X9_isWord 1 σ) = 0 then (if (f_X9_isWord 2 σ) = 0 then (if (f_X9_isWord 3 σ) = 0 then (if (f_X9_isWord 4 σ) = 0 then (if (f_X9_isWord 5 σ) = 0 then (u_X9_readLine_1 x1 N σ) else (u_X9_readLine_2 x1 N σ)) else (u_X9_readLine_3 x1 N σ)) else (if ((r_X9_isOnce 3 N σ).1) = 0 then (u_X9_readLine_4 x1 N σ) else (u_X9_readLine_8 x1 N σ))) else (if ((r_X9_isOnce 2 N σ).1) = 0 then (u_X9_readLine_9 x1 N σ) else (u_X9_readLine_11 x1 N σ))) else (if ((r_X9_isOnce 1 N σ).1) = 0 then (u_X9_readLine_12 x1 N σ) else (u_X9_readLine_13 x1 N σ))) else (if ((r_X9_isOnce 0 N σ).1) = 0 then (u_X9_readLine_14 x1 N σ) else (u_X9_readLine_16 x1 N σ))
def p_X9_readLine (x1 : Int32) (N : Nat) (σ : zS) : Prop := ((f_X9_isWord 0 σ) = 0 → (((f_X9_isWord 1 σ) = 0 → (((f_X9_isWord 2 σ) = 0 → (((f_X9_isWord 3 σ) = 0 → (((f_X9_isWord 4 σ) = 0 → (¬ (f_X9_isWord 5 σ) = 0 → p_X9_readTask x1 N σ)) ∧ (¬ (f_X9_isWord 4 σ) = 0 → p_X9_readDef x1 N σ))) ∧ (¬ (f_X9_isWord 3 σ) = 0 → (p_X9_isOnce 3 N σ ∧ (¬ ((r_X9_isOnce 3 N σ).1) = 0 → (p_X9_numeral 0 99 N (u_X9_readLine_4 x1 N σ) ∧ (vp_in x1 2 ∧ p_X9_numeral 0 99 N (u_X9_readLine_6 x1 N σ)))))))) ∧ (¬ (f_X9_isWord 2 σ) = 0 → (p_X9_isOnce 2 N σ ∧ (¬ ((r_X9_isOnce 2 N σ).1) = 0 → (p_X9_numeral 1 50 N (u_X9_readLine_9 x1 N σ) ∧ vp_in x1 2)))))) ∧ (¬ (f_X9_isWord 1 σ) = 0 → (p_X9_isOnce 1 N σ ∧ (¬ ((r_X9_isOnce 1 N σ).1) = 0 → p_X9_readWay x1 N (u_X9_readLine_12 x1 N σ)))))) ∧ (¬ (f_X9_isWord 0 σ) = 0 → (p_X9_isOnce 0 N σ ∧ (¬ ((r_X9_isOnce 0 N σ).1) = 0 → (p_X9_numeral 2 12 N (u_X9_readLine_14 x1 N σ) ∧ vp_in x1 2))))
set_option maxRecDepth 100000 in
set_option maxHeartbeats 1000000 in
theorem c_X9_readLine {nx : Nat} (x1 : Int32) (N : Nat) (σ : zS) (hp : p_X9_readLine x1 N σ) : zCl 11 zall nx zall nx 179 [.inr (9, 57, 468), .inl x1] σ (fun v σ1 => v = none ∧ σ1 = s_X9_readLine x1 N σ) := by
  refine zmeth (cd := kX9_readLine) [] 1000 (Nat.le_of_ble_eq_true rfl) rfl okX9_readLine (Nat.le_refl _) (Nat.le_of_ble_eq_true rfl) ?_
  refine zCl.use (c_X9_isWord 0 σ) (Nat.le_of_ble_eq_true rfl) ?_
  rintro _ σz ⟨rfl, hz⟩
  subst σz
  refine And.intro (fun (h1 : (f_X9_isWord 0 σ) = 0) => ?_) (fun (h1 : ¬ (f_X9_isWord 0 σ) = 0) => ?_)
  · refine zCl.use (c_X9_isWord 1 σ) (Nat.le_of_ble_eq_true rfl) ?_
    rintro _ σz ⟨rfl, hz⟩
    subst σz
    refine And.intro (fun (h2 : (f_X9_isWord 1 σ) = 0) => ?_) (fun (h2 : ¬ (f_X9_isWord 1 σ) = 0) => ?_)
    · refine zCl.use (c_X9_isWord 2 σ) (Nat.le_of_ble_eq_true rfl) ?_
      rintro _ σz ⟨rfl, hz⟩
      subst σz
      refine And.intro (fun (h3 : (f_X9_isWord 2 σ) = 0) => ?_) (fun (h3 : ¬ (f_X9_isWord 2 σ) = 0) => ?_)
      · refine zCl.use (c_X9_isWord 3 σ) (Nat.le_of_ble_eq_true rfl) ?_
        rintro _ σz ⟨rfl, hz⟩
        subst σz
        refine And.intro (fun (h4 : (f_X9_isWord 3 σ) = 0) => ?_) (fun (h4 : ¬ (f_X9_isWord 3 σ) = 0) => ?_)
        · refine zCl.use (c_X9_isWord 4 σ) (Nat.le_of_ble_eq_true rfl) ?_
          rintro _ σz ⟨rfl, hz⟩
          subst σz
          refine And.intro (fun (h5 : (f_X9_isWord 4 σ) = 0) => ?_) (fun (h5 : ¬ (f_X9_isWord 4 σ) = 0) => ?_)
          · refine zCl.use (c_X9_isWord 5 σ) (Nat.le_of_ble_eq_true rfl) ?_
            rintro _ σz ⟨rfl, hz⟩
            subst σz
            refine And.intro (fun (h6 : (f_X9_isWord 5 σ) = 0) => ?_) (fun (h6 : ¬ (f_X9_isWord 5 σ) = 0) => ?_)
            · refine zCl.use (c_X9_fail 1 σ) (Nat.le_of_ble_eq_true rfl) ?_
              rintro _ σz ⟨rfl, hz⟩
              subst σz
              exact And.intro rfl (And.intro rfl ⟨rfl, by rw [s_X9_readLine, if_pos h1, if_pos h2, if_pos h3, if_pos h4, if_pos h5, if_pos h6] <;> rfl⟩)
            · refine zCl.use (c_X9_readTask x1 N σ ((((((hp.1 h1).1 h2).1 h3).1 h4).1 h5) h6)) (Nat.le_of_ble_eq_true rfl) ?_
              rintro _ σz ⟨rfl, hz⟩
              subst σz
              exact And.intro rfl (And.intro rfl ⟨rfl, by rw [s_X9_readLine, if_pos h1, if_pos h2, if_pos h3, if_pos h4, if_pos h5, if_neg h6] <;> rfl⟩)
          · refine zCl.use (c_X9_readDef x1 N σ (((((hp.1 h1).1 h2).1 h3).1 h4).2 h5)) (Nat.le_of_ble_eq_true rfl) ?_
            rintro _ σz ⟨rfl, hz⟩
            subst σz
            exact And.intro rfl (And.intro rfl ⟨rfl, by rw [s_X9_readLine, if_pos h1, if_pos h2, if_pos h3, if_pos h4, if_neg h5] <;> rfl⟩)
        · refine zCl.use (c_X9_isOnce 3 N σ ((((hp.1 h1).1 h2).1 h3).2 h4).1) (Nat.le_of_ble_eq_true rfl) ?_
          rintro _ σz ⟨rfl, hz⟩
          subst σz
          refine And.intro (fun (h7 : ¬ ((r_X9_isOnce 3 N σ).1) = 0) => ?_) (fun (h7 : ((r_X9_isOnce 3 N σ).1) = 0) => ?_)
          · refine zCl.use (c_X9_numeral 0 99 N (u_X9_readLine_4 x1 N σ) (((((hp.1 h1).1 h2).1 h3).2 h4).2 h7).1) (Nat.le_of_ble_eq_true rfl) ?_
            rintro _ σz ⟨rfl, hz⟩
            subst σz
            refine And.intro (((((hp.1 h1).1 h2).1 h3).2 h4).2 h7).2.1 ?_
            refine zCl.use (c_X9_numeral 0 99 N (u_X9_readLine_6 x1 N σ) (((((hp.1 h1).1 h2).1 h3).2 h4).2 h7).2.2) (Nat.le_of_ble_eq_true rfl) ?_
            rintro _ σz ⟨rfl, hz⟩
            subst σz
            refine And.intro (((((hp.1 h1).1 h2).1 h3).2 h4).2 h7).2.1 ?_
            exact And.intro rfl (And.intro rfl ⟨rfl, by rw [s_X9_readLine, if_pos h1, if_pos h2, if_pos h3, if_neg h4, if_neg h7] <;> rfl⟩)
          · exact And.intro rfl (And.intro rfl ⟨rfl, by rw [s_X9_readLine, if_pos h1, if_pos h2, if_pos h3, if_neg h4, if_pos h7] <;> rfl⟩)
      · refine zCl.use (c_X9_isOnce 2 N σ (((hp.1 h1).1 h2).2 h3).1) (Nat.le_of_ble_eq_true rfl) ?_
        rintro _ σz ⟨rfl, hz⟩
        subst σz
        refine And.intro (fun (h8 : ((r_X9_isOnce 2 N σ).1) = 0) => ?_) (fun (h8 : ¬ ((r_X9_isOnce 2 N σ).1) = 0) => ?_)
        · exact And.intro rfl (And.intro rfl ⟨rfl, by rw [s_X9_readLine, if_pos h1, if_pos h2, if_neg h3, if_pos h8] <;> rfl⟩)
        · refine zCl.use (c_X9_numeral 1 50 N (u_X9_readLine_9 x1 N σ) ((((hp.1 h1).1 h2).2 h3).2 h8).1) (Nat.le_of_ble_eq_true rfl) ?_
          rintro _ σz ⟨rfl, hz⟩
          subst σz
          refine And.intro ((((hp.1 h1).1 h2).2 h3).2 h8).2 ?_
          exact And.intro rfl (And.intro rfl ⟨rfl, by rw [s_X9_readLine, if_pos h1, if_pos h2, if_neg h3, if_neg h8] <;> rfl⟩)
    · refine zCl.use (c_X9_isOnce 1 N σ ((hp.1 h1).2 h2).1) (Nat.le_of_ble_eq_true rfl) ?_
      rintro _ σz ⟨rfl, hz⟩
      subst σz
      refine And.intro (fun (h9 : ((r_X9_isOnce 1 N σ).1) = 0) => ?_) (fun (h9 : ¬ ((r_X9_isOnce 1 N σ).1) = 0) => ?_)
      · exact And.intro rfl (And.intro rfl ⟨rfl, by rw [s_X9_readLine, if_pos h1, if_neg h2, if_pos h9] <;> rfl⟩)
      · refine zCl.use (c_X9_readWay x1 N (u_X9_readLine_12 x1 N σ) (((hp.1 h1).2 h2).2 h9)) (Nat.le_of_ble_eq_true rfl) ?_
        rintro _ σz ⟨rfl, hz⟩
        subst σz
        exact And.intro rfl (And.intro rfl ⟨rfl, by rw [s_X9_readLine, if_pos h1, if_neg h2, if_neg h9] <;> rfl⟩)
  · refine zCl.use (c_X9_isOnce 0 N σ (hp.2 h1).1) (Nat.le_of_ble_eq_true rfl) ?_
    rintro _ σz ⟨rfl, hz⟩
    subst σz
    refine And.intro (fun (h10 : ((r_X9_isOnce 0 N σ).1) = 0) => ?_) (fun (h10 : ¬ ((r_X9_isOnce 0 N σ).1) = 0) => ?_)
    · exact And.intro rfl (And.intro rfl ⟨rfl, by rw [s_X9_readLine, if_neg h1, if_pos h10] <;> rfl⟩)
    · refine zCl.use (c_X9_numeral 2 12 N (u_X9_readLine_14 x1 N σ) ((hp.2 h1).2 h10).1) (Nat.le_of_ble_eq_true rfl) ?_
      rintro _ σz ⟨rfl, hz⟩
      subst σz
      refine And.intro ((hp.2 h1).2 h10).2 ?_
      exact And.intro rfl (And.intro rfl ⟨rfl, by rw [s_X9_readLine, if_neg h1, if_neg h10] <;> rfl⟩)
def u_X9_readAll_h0_1 (N : Nat) (v1 : Int32) (σ : zS) : zS := s_X9_readLine v1 N σ
def u_X9_readAll_h0_2 (N : Nat) (v1 : Int32) (σ : zS) : zS := s_X9_need 59 N (u_X9_readAll_h0_1 N v1 σ)
def l_X9_readAll (N : Nat) : Nat → Int32 → zS → zS
  | 0, _, σ => σ
  | n + 1, v1, σ => if (σ.1 468 25) = 0 then (if (σ.1 468 22) = 0 then σ else (l_X9_readAll N n v1 (u_X9_readAll_h0_2 N v1 σ))) else σ
def q_X9_readAll (N : Nat) : Nat → Int32 → zS → Prop
  | 0, _, _ => False
  | n + 1, v1, σ => (σ.1 468 25) = 0 → (¬ (σ.1 468 22) = 0 → (p_X9_readLine v1 N σ ∧ (p_X9_need 59 N (u_X9_readAll_h0_1 N v1 σ) ∧ q_X9_readAll N n v1 (u_X9_readAll_h0_2 N v1 σ))))
set_option maxRecDepth 100000 in
set_option maxHeartbeats 1000000 in
theorem w_X9_readAll {nx : Nat} (N : Nat) : ∀ n : Nat, (∀ (v1 : Int32) (σ : zS), q_X9_readAll N n v1 σ → zWp 12 zall nx 178 (fun v σ1 => v = none ∧ σ1 = l_X9_readAll N n v1 σ) zall nx 4 [some (.inr (9, 57, 468)), some (.inl v1)] [] σ) := by
  intro n
  induction n with
  | zero => exact fun _ _ h => h.elim
  | succ n ih =>
    intro v1 σ hp
    rw [q_X9_readAll] at hp
    refine zvc_sound (cd := kX9_readAll) (cs := [4]) rfl okX9_readAll 1000 _ _ 4 (zseek kX9_readAll 4) _ _ _ zseek_sub ?_
    refine And.intro (fun (h1 : ¬ (σ.1 468 25) = 0) => ?_) (fun (h1 : (σ.1 468 25) = 0) => ?_)
    · exact And.intro rfl (And.intro rfl ⟨rfl, by rw [l_X9_readAll, if_neg h1] <;> rfl⟩)
    · refine And.intro (fun (h2 : (σ.1 468 22) = 0) => ?_) (fun (h2 : ¬ (σ.1 468 22) = 0) => ?_)
      · exact And.intro rfl (And.intro rfl ⟨rfl, by rw [l_X9_readAll, if_pos h1, if_pos h2] <;> rfl⟩)
      · refine zCl.use (c_X9_readLine v1 N σ ((hp h1) h2).1) (Nat.le_of_ble_eq_true rfl) ?_
        rintro _ σz ⟨rfl, hz⟩
        subst σz
        refine zCl.use (c_X9_need 59 N (u_X9_readAll_h0_1 N v1 σ) ((hp h1) h2).2.1) (Nat.le_of_ble_eq_true rfl) ?_
        rintro _ σz ⟨rfl, hz⟩
        subst σz
        refine zWp.use (ih v1 (u_X9_readAll_h0_2 N v1 σ) ((hp h1) h2).2.2) (And.intro rfl (And.intro rfl trivial)) (fun vy σy hy => ?_)
        rw [l_X9_readAll, if_pos h1, if_neg h2]; exact hy
def u_X9_readAll_1 (x1 : Int32) (N : Nat) (σ : zS) : zS := s_X9_scan N σ
def s_X9_readAll (x1 : Int32) (N : Nat) (σ : zS) : zS := l_X9_readAll N N x1 (u_X9_readAll_1 x1 N σ)
def p_X9_readAll (x1 : Int32) (N : Nat) (σ : zS) : Prop := p_X9_scan N σ ∧ q_X9_readAll N N x1 (u_X9_readAll_1 x1 N σ)
set_option maxRecDepth 100000 in
set_option maxHeartbeats 1000000 in
theorem c_X9_readAll {nx : Nat} (x1 : Int32) (N : Nat) (σ : zS) (hp : p_X9_readAll x1 N σ) : zCl 12 zall nx zall nx 178 [.inr (9, 57, 468), .inl x1] σ (fun v σ1 => v = none ∧ σ1 = s_X9_readAll x1 N σ) := by
  refine zmeth (cd := kX9_readAll) [4] 1000 (Nat.le_of_ble_eq_true rfl) rfl okX9_readAll (Nat.le_refl _) (Nat.le_of_ble_eq_true rfl) ?_
  refine zCl.use (c_X9_scan N σ hp.1) (Nat.le_of_ble_eq_true rfl) ?_
  rintro _ σz ⟨rfl, hz⟩
  subst σz
  refine zWp.use ((w_X9_readAll N N) x1 (u_X9_readAll_1 x1 N σ) hp.2) (And.intro rfl (And.intro rfl trivial)) (fun vy σy hy => ?_)
  rw [s_X9_readAll]; exact hy
def u_X9_store_1 (N : Nat) (σ : zS) : zS := zuI σ 468 19 (σ.1 468 18)
def u_X9_store_2 (N : Nat) (σ : zS) : zS := zuI (u_X9_store_1 N σ) 468 18 0
def u_X9_store_3 (N : Nat) (σ : zS) : zS := zuI (u_X9_store_2 N σ) 468 20 0
def u_X9_store_4 (N : Nat) (σ : zS) : zS := zuI (u_X9_store_3 N σ) 468 25 0
def u_X9_store_5 (N : Nat) (σ : zS) : zS := zuI (u_X9_store_4 N σ) 468 26 (-1)
def u_X9_store_6 (N : Nat) (σ : zS) : zS := zuI (u_X9_store_5 N σ) 468 33 0
def u_X9_store_7 (N : Nat) (σ : zS) : zS := s_X9_clearBank (1 - (σ.1 468 16)) (u_X9_store_6 N σ)
def u_X9_store_8 (N : Nat) (σ : zS) : zS := s_X9_readAll (1 - (σ.1 468 16)) N (u_X9_store_7 N σ)
def u_X9_store_9 (N : Nat) (σ : zS) : zS := zuI (u_X9_store_8 N σ) 468 27 ((u_X9_store_8 N σ).1 468 25)
def u_X9_store_10 (N : Nat) (σ : zS) : zS := zuI (u_X9_store_9 N σ) 468 28 ((u_X9_store_9 N σ).1 468 26)
def u_X9_store_11 (N : Nat) (σ : zS) : zS := zuI (u_X9_store_10 N σ) 468 16 (1 - (σ.1 468 16))
def u_X9_store_12 (N : Nat) (σ : zS) : zS := s_X9_startAnew N (u_X9_store_11 N σ)
def r_X9_store (N : Nat) (σ : zS) : Int32 × zS := if ((u_X9_store_10 N σ).1 468 27) ≤ 0 then (f_X9_many (u_X9_store_12 N σ), (u_X9_store_12 N σ)) else (-1, (u_X9_store_10 N σ))
def p_X9_store (N : Nat) (σ : zS) : Prop := p_X9_clearBank (1 - (σ.1 468 16)) (u_X9_store_6 N σ) ∧ (p_X9_readAll (1 - (σ.1 468 16)) N (u_X9_store_7 N σ) ∧ (((u_X9_store_10 N σ).1 468 27) ≤ 0 → (p_X9_startAnew N (u_X9_store_11 N σ) ∧ p_X9_many (u_X9_store_12 N σ))))
set_option maxRecDepth 100000 in
set_option maxHeartbeats 1000000 in
theorem c_X9_store {nx : Nat} (N : Nat) (σ : zS) (hp : p_X9_store N σ) : zCl 13 zall nx zall nx 204 [.inr (9, 57, 468)] σ (fun v σ1 => v = some (.inl ((r_X9_store N σ).1)) ∧ σ1 = (r_X9_store N σ).2) := by
  refine zmeth (cd := kX9_store) [] 1000 (Nat.le_of_ble_eq_true rfl) rfl okX9_store (Nat.le_refl _) (Nat.le_of_ble_eq_true rfl) ?_
  refine zCl.use (c_X9_clearBank (1 - (σ.1 468 16)) (u_X9_store_6 N σ) hp.1) (Nat.le_of_ble_eq_true rfl) ?_
  rintro _ σz ⟨rfl, hz⟩
  subst σz
  refine zCl.use (c_X9_readAll (1 - (σ.1 468 16)) N (u_X9_store_7 N σ) hp.2.1) (Nat.le_of_ble_eq_true rfl) ?_
  rintro _ σz ⟨rfl, hz⟩
  subst σz
  refine And.intro (fun (h1 : ((u_X9_store_10 N σ).1 468 27) ≤ 0) => ?_) (fun (h1 : ¬ ((u_X9_store_10 N σ).1 468 27) ≤ 0) => ?_)
  · refine zCl.use (c_X9_startAnew N (u_X9_store_11 N σ) (hp.2.2 h1).1) (Nat.le_of_ble_eq_true rfl) ?_
    rintro _ σz ⟨rfl, hz⟩
    subst σz
    refine zCl.use (c_X9_many (u_X9_store_12 N σ) (hp.2.2 h1).2) (Nat.le_of_ble_eq_true rfl) ?_
    rintro _ σz ⟨rfl, hz⟩
    subst σz
    exact And.intro rfl (And.intro rfl ⟨by rw [r_X9_store, if_pos h1] <;> rfl, by rw [r_X9_store, if_pos h1] <;> rfl⟩)
  · exact And.intro rfl (And.intro rfl ⟨by rw [r_X9_store, if_neg h1] <;> rfl, by rw [r_X9_store, if_neg h1] <;> rfl⟩)
