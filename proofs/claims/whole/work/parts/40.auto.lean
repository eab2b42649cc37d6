/-! methods without loops: printed by wip/whole/dec.py -/
def u_X0_push_1 (o : Nat) (x1 : Int32) (σ : zS) : zS := zuI σ (o + 3) (σ.1 o 2).toNatClampNeg x1
def u_X0_push_2 (o : Nat) (x1 : Int32) (σ : zS) : zS := zuI (u_X0_push_1 o x1 σ) o 2 (((u_X0_push_1 o x1 σ).1 o 2) + 1)
def s_X0_push (o : Nat) (x1 : Int32) (σ : zS) : zS := if (σ.1 o 2) < 0 then σ else (if 1680 ≤ (σ.1 o 2) then σ else (u_X0_push_2 o x1 σ))
def p_X0_push (o : Nat) (x1 : Int32) (σ : zS) : Prop := ¬ (σ.1 o 2) < 0 → (¬ 1680 ≤ (σ.1 o 2) → vp_in (σ.1 o 2) 1680)
set_option maxRecDepth 100000 in
set_option maxHeartbeats 1000000 in
theorem c_X0_push {nx : Nat} (o : Nat) (x1 : Int32) (σ : zS) (hp : p_X0_push o x1 σ) : zCl 1 zall nx zall nx 12 [.inr (0, 9, o), .inl x1] σ (fun v σ1 => v = none ∧ σ1 = s_X0_push o x1 σ) := by
  refine zmeth (cd := kX0_push) [] 1000 (Nat.le_of_ble_eq_true rfl) rfl okX0_push (Nat.le_refl _) (Nat.le_of_ble_eq_true rfl) ?_
  refine And.intro (fun (h1 : (σ.1 o 2) < 0) => ?_) (fun (h1 : ¬ (σ.1 o 2) < 0) => ?_)
  · exact And.intro rfl (And.intro rfl ⟨rfl, by rw [s_X0_push, if_pos h1] <;> rfl⟩)
  · refine And.intro (fun (h2 : 1680 ≤ (σ.1 o 2)) => ?_) (fun (h2 : ¬ 1680 ≤ (σ.1 o 2)) => ?_)
    · exact And.intro rfl (And.intro rfl ⟨rfl, by rw [s_X0_push, if_neg h1, if_pos h2] <;> rfl⟩)
    · refine And.intro ((hp h1) h2) ?_
      exact And.intro rfl (And.intro rfl ⟨rfl, by rw [s_X0_push, if_neg h1, if_neg h2] <;> rfl⟩)
def u_X0_pop_1 (o : Nat) (σ : zS) : zS := zuI σ o 2 ((σ.1 o 2) - 1)
def f_X0_pop (o : Nat) (σ : zS) : Int32 := if (σ.1 o 2) ≤ 0 then 0 else (if (σ.1 o 2) ≤ 1680 then ((u_X0_pop_1 o σ).1 (o + 3) ((u_X0_pop_1 o σ).1 o 2).toNatClampNeg) else 0)
def s_X0_pop (o : Nat) (σ : zS) : zS := if (σ.1 o 2) ≤ 0 then σ else (if (σ.1 o 2) ≤ 1680 then (u_X0_pop_1 o σ) else σ)
def p_X0_pop (o : Nat) (σ : zS) : Prop := ¬ (σ.1 o 2) ≤ 0 → ((σ.1 o 2) ≤ 1680 → vp_in ((u_X0_pop_1 o σ).1 o 2) 1680)
set_option maxRecDepth 100000 in
set_option maxHeartbeats 1000000 in
theorem c_X0_pop {nx : Nat} (o : Nat) (σ : zS) (hp : p_X0_pop o σ) : zCl 1 zall nx zall nx 13 [.inr (0, 9, o)] σ (fun v σ1 => v = some (.inl (f_X0_pop o σ)) ∧ σ1 = s_X0_pop o σ) := by
  refine zmeth (cd := kX0_pop) [] 1000 (Nat.le_of_ble_eq_true rfl) rfl okX0_pop (Nat.le_refl _) (Nat.le_of_ble_eq_true rfl) ?_
  refine And.intro (fun (h1 : (σ.1 o 2) ≤ 0) => ?_) (fun (h1 : ¬ (σ.1 o 2) ≤ 0) => ?_)
  · exact And.intro rfl (And.intro rfl ⟨by rw [f_X0_pop, if_pos h1] <;> rfl, by rw [s_X0_pop, if_pos h1] <;> rfl⟩)
  · refine And.intro (fun (h2 : (σ.1 o 2) ≤ 1680) => ?_) (fun (h2 : ¬ (σ.1 o 2) ≤ 1680) => ?_)
    · refine And.intro ((hp h1) h2) ?_
      exact And.intro rfl (And.intro rfl ⟨by rw [f_X0_pop, if_neg h1, if_pos h2] <;> rfl, by rw [s_X0_pop, if_neg h1, if_pos h2] <;> rfl⟩)
    · exact And.intro rfl (And.intro rfl ⟨by rw [f_X0_pop, if_neg h1, if_neg h2] <;> rfl, by rw [s_X0_pop, if_neg h1, if_neg h2] <;> rfl⟩)
def u_X1_stepBack_1 (σ : zS) : zS := zuI σ 30 1 ((σ.1 30 1) - 1)
def f_X1_stepBack (σ : zS) : Int32 := if (σ.1 30 1) = 0 then 0 else 1
def s_X1_stepBack (σ : zS) : zS := if (σ.1 30 1) = 0 then σ else (u_X1_stepBack_1 σ)
set_option maxRecDepth 100000 in
set_option maxHeartbeats 1000000 in
theorem c_X1_stepBack {nx : Nat} (σ : zS) : zCl 1 zall nx zall nx 19 [.inr (1, 3, 30)] σ (fun v σ1 => v = some (.inl (f_X1_stepBack σ)) ∧ σ1 = s_X1_stepBack σ) := by
  refine zmeth (cd := kX1_stepBack) [] 1000 (Nat.le_of_ble_eq_true rfl) rfl okX1_stepBack (Nat.le_refl _) (Nat.le_of_ble_eq_true rfl) ?_
  refine And.intro (fun (h1 : ¬ (σ.1 30 1) = 0) => ?_) (fun (h1 : (σ.1 30 1) = 0) => ?_)
  · exact And.intro rfl (And.intro rfl (And.intro (Or.inr rfl) ⟨by rw [f_X1_stepBack, if_neg h1] <;> rfl, by rw [s_X1_stepBack, if_neg h1] <;> rfl⟩))
  · exact And.intro rfl (And.intro rfl (And.intro (Or.inl rfl) ⟨by rw [f_X1_stepBack, if_pos h1] <;> rfl, by rw [s_X1_stepBack, if_pos h1] <;> rfl⟩))
theorem b_X1_stepBack {σ : zS} : f_X1_stepBack σ = 0 ∨ f_X1_stepBack σ = 1 := by
  unfold f_X1_stepBack
  (repeat' split) <;> first | exact Or.inl rfl | exact Or.inr rfl
def u_X1_stepOn_1 (σ : zS) : zS := zuI σ 30 1 ((σ.1 30 1) + 1)
def f_X1_stepOn (σ : zS) : Int32 := if (σ.1 30 1) = (σ.1 30 2) then 0 else 1
def s_X1_stepOn (σ : zS) : zS := if (σ.1 30 1) = (σ.1 30 2) then σ else (u_X1_stepOn_1 σ)
set_option maxRecDepth 100000 in
set_option maxHeartbeats 1000000 in
theorem c_X1_stepOn {nx : Nat} (σ : zS) : zCl 1 zall nx zall nx 20 [.inr (1, 3, 30)] σ (fun v σ1 => v = some (.inl (f_X1_stepOn σ)) ∧ σ1 = s_X1_stepOn σ) := by
  refine zmeth (cd := kX1_stepOn) [] 1000 (Nat.le_of_ble_eq_true rfl) rfl okX1_stepOn (Nat.le_refl _) (Nat.le_of_ble_eq_true rfl) ?_
  refine And.intro (fun (h1 : ¬ (σ.1 30 1) = (σ.1 30 2)) => ?_) (fun (h1 : (σ.1 30 1) = (σ.1 30 2)) => ?_)
  · exact And.intro rfl (And.intro rfl (And.intro (Or.inr rfl) ⟨by rw [f_X1_stepOn, if_neg h1] <;> rfl, by rw [s_X1_stepOn, if_neg h1] <;> rfl⟩))
  · exact And.intro rfl (And.intro rfl (And.intro (Or.inl rfl) ⟨by rw [f_X1_stepOn, if_pos h1] <;> rfl, by rw [s_X1_stepOn, if_pos h1] <;> rfl⟩))
theorem b_X1_stepOn {σ : zS} : f_X1_stepOn σ = 0 ∨ f_X1_stepOn σ = 1 := by
  unfold f_X1_stepOn
  (repeat' split) <;> first | exact Or.inl rfl | exact Or.inr rfl
def u_X3_refuse_1 (x1 : Int32) (x2 : Int32) (σ : zS) : zS := zuI σ 2 2 x1
def u_X3_refuse_2 (x1 : Int32) (x2 : Int32) (σ : zS) : zS := zuI (u_X3_refuse_1 x1 x2 σ) 2 3 x2
def f_X3_refuse (x1 : Int32) (x2 : Int32) : Int32 := 0
def s_X3_refuse (x1 : Int32) (x2 : Int32) (σ : zS) : zS := (u_X3_refuse_2 x1 x2 σ)
set_option maxRecDepth 100000 in
set_option maxHeartbeats 1000000 in
theorem c_X3_refuse {nx : Nat} (x1 : Int32) (x2 : Int32) (σ : zS) : zCl 1 zall nx zall nx 27 [.inr (3, 12, 2), .inl x1, .inl x2] σ (fun v σ1 => v = some (.inl (f_X3_refuse x1 x2)) ∧ σ1 = s_X3_refuse x1 x2 σ) := by
  refine zmeth (cd := kX3_refuse) [] 1000 (Nat.le_of_ble_eq_true rfl) rfl okX3_refuse (Nat.le_refl _) (Nat.le_of_ble_eq_true rfl) ?_
  exact And.intro rfl (And.intro rfl (And.intro (Or.inl rfl) ⟨by rw [f_X3_refuse] <;> rfl, by rw [s_X3_refuse] <;> rfl⟩))
theorem b_X3_refuse {x1 : Int32} {x2 : Int32} : f_X3_refuse x1 x2 = 0 ∨ f_X3_refuse x1 x2 = 1 := by
  unfold f_X3_refuse
  (repeat' split) <;> first | exact Or.inl rfl | exact Or.inr rfl
def u_X3_refuseToken_1 (σ : zS) : zS := s_X3_refuse 1 (σ.1 3 3) σ
def f_X3_refuseToken (σ : zS) : Int32 := f_X3_refuse 1 (σ.1 3 3)
def s_X3_refuseToken (σ : zS) : zS := (u_X3_refuseToken_1 σ)
set_option maxRecDepth 100000 in
set_option maxHeartbeats 1000000 in
theorem c_X3_refuseToken {nx : Nat} (σ : zS) : zCl 2 zall nx zall nx 28 [.inr (3, 12, 2)] σ (fun v σ1 => v = some (.inl (f_X3_refuseToken σ)) ∧ σ1 = s_X3_refuseToken σ) := by
  refine zmeth (cd := kX3_refuseToken) [] 1000 (Nat.le_of_ble_eq_true rfl) rfl okX3_refuseToken (Nat.le_refl _) (Nat.le_of_ble_eq_true rfl) ?_
  refine zCl.use (c_X3_refuse 1 (σ.1 3 3) σ) (Nat.le_of_ble_eq_true rfl) ?_
  rintro _ _ ⟨rfl, rfl⟩
  exact And.intro rfl (And.intro rfl (And.intro (b_X3_refuse) ⟨by rw [f_X3_refuseToken] <;> rfl, by rw [s_X3_refuseToken] <;> rfl⟩))
theorem b_X3_refuseToken {σ : zS} : f_X3_refuseToken σ = 0 ∨ f_X3_refuseToken σ = 1 := by
  unfold f_X3_refuseToken
  (repeat' split) <;> first | exact Or.inl rfl | exact Or.inr rfl | exact b_X3_refuse
def f_X4_cost (o : Nat) (σ : zS) : Int32 := ((σ.1 o 10) * (σ.1 o 4)) + ((σ.1 o 11) * (σ.1 o 5))
set_option maxRecDepth 100000 in
set_option maxHeartbeats 1000000 in
theorem c_X4_cost {nx : Nat} (o : Nat) (σ : zS) : zCl 1 zall nx zall nx 55 [.inr (4, 17, o)] σ (fun v σ1 => v = some (.inl (f_X4_cost o σ)) ∧ σ1 = σ) := by
  refine zmeth (cd := kX4_cost) [] 1000 (Nat.le_of_ble_eq_true rfl) rfl okX4_cost (Nat.le_refl _) (Nat.le_of_ble_eq_true rfl) ?_
  exact And.intro rfl (And.intro rfl ⟨by rw [f_X4_cost] <;> rfl, rfl⟩)
def f_X4_behind (o : Nat) (x1 : Int32) (σ : zS) : Int32 := if (σ.1 o 0) ≤ (x1 + 1) then 0 else (x1 + 1)
set_option maxRecDepth 100000 in
set_option maxHeartbeats 1000000 in
theorem c_X4_behind {nx : Nat} (o : Nat) (x1 : Int32) (σ : zS) : zCl 1 zall nx zall nx 81 [.inr (4, 17, o), .inl x1] σ (fun v σ1 => v = some (.inl (f_X4_behind o x1 σ)) ∧ σ1 = σ) := by
  refine zmeth (cd := kX4_behind) [] 1000 (Nat.le_of_ble_eq_true rfl) rfl okX4_behind (Nat.le_refl _) (Nat.le_of_ble_eq_true rfl) ?_
  refine And.intro (fun (h1 : (σ.1 o 0) ≤ (x1 + 1)) => ?_) (fun (h1 : ¬ (σ.1 o 0) ≤ (x1 + 1)) => ?_)
  · exact And.intro rfl (And.intro rfl ⟨by rw [f_X4_behind, if_pos h1] <;> rfl, rfl⟩)
  · exact And.intro rfl (And.intro rfl ⟨by rw [f_X4_behind, if_neg h1] <;> rfl, rfl⟩)
def f_X4_ahead (o : Nat) (x1 : Int32) (σ : zS) : Int32 := if x1 ≤ 0 then ((σ.1 o 0) - 1) else (x1 - 1)
set_option maxRecDepth 100000 in
set_option maxHeartbeats 1000000 in
theorem c_X4_ahead {nx : Nat} (o : Nat) (x1 : Int32) (σ : zS) : zCl 1 zall nx zall nx 82 [.inr (4, 17, o), .inl x1] σ (fun v σ1 => v = some (.inl (f_X4_ahead o x1 σ)) ∧ σ1 = σ) := by
  refine zmeth (cd := kX4_ahead) [] 1000 (Nat.le_of_ble_eq_true rfl) rfl okX4_ahead (Nat.le_refl _) (Nat.le_of_ble_eq_true rfl) ?_
  refine And.intro (fun (h1 : x1 ≤ 0) => ?_) (fun (h1 : ¬ x1 ≤ 0) => ?_)
  · exact And.intro rfl (And.intro rfl ⟨by rw [f_X4_ahead, if_pos h1] <;> rfl, rfl⟩)
  · exact And.intro rfl (And.intro rfl ⟨by rw [f_X4_ahead, if_neg h1] <;> rfl, rfl⟩)
def u_X5_forgetGuesses_1 (o : Nat) (σ : zS) : zS := zuI σ o 6 1
def u_X5_forgetGuesses_2 (o : Nat) (σ : zS) : zS := zuI (u_X5_forgetGuesses_1 o σ) o 7 0
def s_X5_forgetGuesses (o : Nat) (σ : zS) : zS := (u_X5_forgetGuesses_2 o σ)
set_option maxRecDepth 100000 in
set_option maxHeartbeats 1000000 in
theorem c_X5_forgetGuesses {nx : Nat} (o : Nat) (σ : zS) : zCl 1 zall nx zall nx 85 [.inr (5, 12, o)] σ (fun v σ1 => v = none ∧ σ1 = s_X5_forgetGuesses o σ) := by
  refine zmeth (cd := kX5_forgetGuesses) [] 1000 (Nat.le_of_ble_eq_true rfl) rfl okX5_forgetGuesses (Nat.le_refl _) (Nat.le_of_ble_eq_true rfl) ?_
  exact And.intro rfl (And.intro rfl ⟨rfl, by rw [s_X5_forgetGuesses] <;> rfl⟩)
def f_X5_fact (o : Nat) (x1 : Int32) (σ : zS) : Int32 := if x1 = 1 then (σ.1 o 1) else (if x1 = 2 then (σ.1 (o + 1) 0) else (if x1 = 3 then (σ.1 o 2) else (if x1 = 4 then (σ.1 o 4) else (if x1 = 5 then (σ.1 o 5) else (if x1 = 6 then (σ.1 o 6) else (if x1 = 7 then (σ.1 o 7) else (if x1 = 8 then (σ.1 o 8) else (if x1 = 9 then (σ.1 o 9) else (if x1 = 10 then (σ.1 o 10) else (if x1 = 11 then (σ.1 o 11) else (-100)))))))))))
set_option maxRecDepth 100000 in
set_option maxHeartbeats 1000000 in
theorem c_X5_fact {nx : Nat} (o : Nat) (x1 : Int32) (σ : zS) : zCl 1 zall nx zall nx 87 [.inr (5, 12, o), .inl x1] σ (fun v σ1 => v = some (.inl (f_X5_fact o x1 σ)) ∧ σ1 = σ) := by
  refine zmeth (cd := kX5_fact) [] 1000 (Nat.le_of_ble_eq_true rfl) rfl okX5_fact (Nat.le_refl _) (Nat.le_of_ble_eq_true rfl) ?_
  refine And.intro (fun (h1 : x1 = 1) => ?_) (fun (h1 : ¬ x1 = 1) => ?_)
  · exact And.intro rfl (And.intro rfl ⟨by rw [f_X5_fact, if_pos h1] <;> rfl, rfl⟩)
  · refine And.intro (fun (h2 : x1 = 2) => ?_) (fun (h2 : ¬ x1 = 2) => ?_)
    · exact And.intro rfl (And.intro rfl ⟨by rw [f_X5_fact, if_neg h1, if_pos h2] <;> rfl, rfl⟩)
    · refine And.intro (fun (h3 : x1 = 3) => ?_) (fun (h3 : ¬ x1 = 3) => ?_)
      · exact And.intro rfl (And.intro rfl ⟨by rw [f_X5_fact, if_neg h1, if_neg h2, if_pos h3] <;> rfl, rfl⟩)
      · refine And.intro (fun (h4 : x1 = 4) => ?_) (fun (h4 : ¬ x1 = 4) => ?_)
        · exact And.intro rfl (And.intro rfl ⟨by rw [f_X5_fact, if_neg h1, if_neg h2, if_neg h3, if_pos h4] <;> rfl, rfl⟩)
        · refine And.intro (fun (h5 : x1 = 5) => ?_) (fun (h5 : ¬ x1 = 5) => ?_)
          · exact And.intro rfl (And.intro rfl ⟨by rw [f_X5_fact, if_neg h1, if_neg h2, if_neg h3, if_neg h4, if_pos h5] <;> rfl, rfl⟩)
          · refine And.intro (fun (h6 : x1 = 6) => ?_) (fun (h6 : ¬ x1 = 6) => ?_)
            · exact And.intro rfl (And.intro rfl ⟨by rw [f_X5_fact, if_neg h1, if_neg h2, if_neg h3, if_neg h4, if_neg h5, if_pos h6] <;> rfl, rfl⟩)
            · refine And.intro (fun (h7 : x1 = 7) => ?_) (fun (h7 : ¬ x1 = 7) => ?_)
              · exact And.intro rfl (And.intro rfl ⟨by rw [f_X5_fact, if_neg h1, if_neg h2, if_neg h3, if_neg h4, if_neg h5, if_neg h6, if_pos h7] <;> rfl, rfl⟩)
              · refine And.intro (fun (h8 : x1 = 8) => ?_) (fun (h8 : ¬ x1 = 8) => ?_)
                · exact And.intro rfl (And.intro rfl ⟨by rw [f_X5_fact, if_neg h1, if_neg h2, if_neg h3, if_neg h4, if_neg h5, if_neg h6, if_neg h7, if_pos h8] <;> rfl, rfl⟩)
                · refine And.intro (fun (h9 : x1 = 9) => ?_) (fun (h9 : ¬ x1 = 9) => ?_)
                  · exact And.intro rfl (And.intro rfl ⟨by rw [f_X5_fact, if_neg h1, if_neg h2, if_neg h3, if_neg h4, if_neg h5, if_neg h6, if_neg h7, if_neg h8, if_pos h9] <;> rfl, rfl⟩)
                  · refine And.intro (fun (h10 : x1 = 10) => ?_) (fun (h10 : ¬ x1 = 10) => ?_)
                    · exact And.intro rfl (And.intro rfl ⟨by rw [f_X5_fact, if_neg h1, if_neg h2, if_neg h3, if_neg h4, if_neg h5, if_neg h6, if_neg h7, if_neg h8, if_neg h9, if_pos h10] <;> rfl, rfl⟩)
                    · refine And.intro (fun (h11 : x1 = 11) => ?_) (fun (h11 : ¬ x1 = 11) => ?_)
                      · exact And.intro rfl (And.intro rfl ⟨by rw [f_X5_fact, if_neg h1, if_neg h2, if_neg h3, if_neg h4, if_neg h5, if_neg h6, if_neg h7, if_neg h8, if_neg h9, if_neg h10, if_pos h11] <;> rfl, rfl⟩)
                      · exact And.intro rfl (And.intro rfl ⟨by rw [f_X5_fact, if_neg h1, if_neg h2, if_neg h3, if_neg h4, if_neg h5, if_neg h6, if_neg h7, if_neg h8, if_neg h9, if_neg h10, if_neg h11] <;> rfl, rfl⟩)
def u_X5_guessToSpill_1 (o : Nat) (x1 : Int32) (x2 : Int32) (σ : zS) : zS := zuI σ o 6 (if 3 < ((σ.1 o 6) + 1) then 3 else ((σ.1 o 6) + 1))
def u_X5_guessToSpill_2 (o : Nat) (x1 : Int32) (x2 : Int32) (σ : zS) : zS := zuI σ o 7 1
def u_X5_guessToSpill_3 (o : Nat) (x1 : Int32) (x2 : Int32) (σ : zS) : zS := zuI σ o 7 (if x2 < ((σ.1 o 7) * 2) then x2 else ((σ.1 o 7) * 2))
def f_X5_guessToSpill (o : Nat) (x1 : Int32) (x2 : Int32) (σ : zS) : Int32 := if x1 = 1 then x2 else (if x1 = 2 then ((σ.1 o 6) + 1) else (if x1 = 3 then (if (σ.1 o 7) ≤ 0 then ((u_X5_guessToSpill_2 o x1 x2 σ).1 o 7) else ((u_X5_guessToSpill_3 o x1 x2 σ).1 o 7)) else 1))
def s_X5_guessToSpill (o : Nat) (x1 : Int32) (x2 : Int32) (σ : zS) : zS := if x1 = 1 then σ else (if x1 = 2 then (u_X5_guessToSpill_1 o x1 x2 σ) else (if x1 = 3 then (if (σ.1 o 7) ≤ 0 then (u_X5_guessToSpill_2 o x1 x2 σ) else (u_X5_guessToSpill_3 o x1 x2 σ)) else σ))
set_option maxRecDepth 100000 in
set_option maxHeartbeats 1000000 in
theorem c_X5_guessToSpill {nx : Nat} (o : Nat) (x1 : Int32) (x2 : Int32) (σ : zS) : zCl 1 zall nx zall nx 88 [.inr (5, 12, o), .inl x1, .inl x2] σ (fun v σ1 => v = some (.inl (f_X5_guessToSpill o x1 x2 σ)) ∧ σ1 = s_X5_guessToSpill o x1 x2 σ) := by
  refine zmeth (cd := kX5_guessToSpill) [] 1000 (Nat.le_of_ble_eq_true rfl) rfl okX5_guessToSpill (Nat.le_refl _) (Nat.le_of_ble_eq_true rfl) ?_
  refine And.intro (fun (h1 : x1 = 1) => ?_) (fun (h1 : ¬ x1 = 1) => ?_)
  · exact And.intro rfl (And.intro rfl ⟨by rw [f_X5_guessToSpill, if_pos h1] <;> rfl, by rw [s_X5_guessToSpill, if_pos h1] <;> rfl⟩)
  · refine And.intro (fun (h2 : x1 = 2) => ?_) (fun (h2 : ¬ x1 = 2) => ?_)
    · exact And.intro rfl (And.intro rfl ⟨by rw [f_X5_guessToSpill, if_neg h1, if_pos h2] <;> rfl, by rw [s_X5_guessToSpill, if_neg h1, if_pos h2] <;> rfl⟩)
    · refine And.intro (fun (h3 : x1 = 3) => ?_) (fun (h3 : ¬ x1 = 3) => ?_)
      · refine And.intro (fun (h4 : (σ.1 o 7) ≤ 0) => ?_) (fun (h4 : ¬ (σ.1 o 7) ≤ 0) => ?_)
        · exact And.intro rfl (And.intro rfl ⟨by rw [f_X5_guessToSpill, if_neg h1, if_neg h2, if_pos h3, if_pos h4] <;> rfl, by rw [s_X5_guessToSpill, if_neg h1, if_neg h2, if_pos h3, if_pos h4] <;> rfl⟩)
        · exact And.intro rfl (And.intro rfl ⟨by rw [f_X5_guessToSpill, if_neg h1, if_neg h2, if_pos h3, if_neg h4] <;> rfl, by rw [s_X5_guessToSpill, if_neg h1, if_neg h2, if_pos h3, if_neg h4] <;> rfl⟩)
      · exact And.intro rfl (And.intro rfl ⟨by rw [f_X5_guessToSpill, if_neg h1, if_neg h2, if_neg h3] <;> rfl, by rw [s_X5_guessToSpill, if_neg h1, if_neg h2, if_neg h3] <;> rfl⟩)
def u_X5_guessToFill_1 (o : Nat) (x1 : Int32) (x2 : Int32) (σ : zS) : zS := zuI σ o 6 (if ((σ.1 o 6) - 1) < 0 then 0 else ((σ.1 o 6) - 1))
def u_X5_guessToFill_2 (o : Nat) (x1 : Int32) (x2 : Int32) (σ : zS) : zS := zuI σ o 7 (-1)
def u_X5_guessToFill_3 (o : Nat) (x1 : Int32) (x2 : Int32) (σ : zS) : zS := zuI σ o 7 (if ((σ.1 o 7) * 2) < (-x2) then (-x2) else ((σ.1 o 7) * 2))
def f_X5_guessToFill (o : Nat) (x1 : Int32) (x2 : Int32) (σ : zS) : Int32 := if x1 = 1 then x2 else (if x1 = 2 then (4 - (σ.1 o 6)) else (if x1 = 3 then (if 0 ≤ (σ.1 o 7) then (-((u_X5_guessToFill_2 o x1 x2 σ).1 o 7)) else (-((u_X5_guessToFill_3 o x1 x2 σ).1 o 7))) else 1))
def s_X5_guessToFill (o : Nat) (x1 : Int32) (x2 : Int32) (σ : zS) : zS := if x1 = 1 then σ else (if x1 = 2 then (u_X5_guessToFill_1 o x1 x2 σ) else (if x1 = 3 then (if 0 ≤ (σ.1 o 7) then (u_X5_guessToFill_2 o x1 x2 σ) else (u_X5_guessToFill_3 o x1 x2 σ)) else σ))
set_option maxRecDepth 100000 in
set_option maxHeartbeats 1000000 in
theorem c_X5_guessToFill {nx : Nat} (o : Nat) (x1 : Int32) (x2 : Int32) (σ : zS) : zCl 1 zall nx zall nx 89 [.inr (5, 12, o), .inl x1, .inl x2] σ (fun v σ1 => v = some (.inl (f_X5_guessToFill o x1 x2 σ)) ∧ σ1 = s_X5_guessToFill o x1 x2 σ) := by
  refine zmeth (cd := kX5_guessToFill) [] 1000 (Nat.le_of_ble_eq_true rfl) rfl okX5_guessToFill (Nat.le_refl _) (Nat.le_of_ble_eq_true rfl) ?_
  refine And.intro (fun (h1 : x1 = 1) => ?_) (fun (h1 : ¬ x1 = 1) => ?_)
  · exact And.intro rfl (And.intro rfl ⟨by rw [f_X5_guessToFill, if_pos h1] <;> rfl, by rw [s_X5_guessToFill, if_pos h1] <;> rfl⟩)
  · refine And.intro (fun (h2 : x1 = 2) => ?_) (fun (h2 : ¬ x1 = 2) => ?_)
    · exact And.intro rfl (And.intro rfl ⟨by rw [f_X5_guessToFill, if_neg h1, if_pos h2] <;> rfl, by rw [s_X5_guessToFill, if_neg h1, if_pos h2] <;> rfl⟩)
    · refine And.intro (fun (h3 : x1 = 3) => ?_) (fun (h3 : ¬ x1 = 3) => ?_)
      · refine And.intro (fun (h4 : 0 ≤ (σ.1 o 7)) => ?_) (fun (h4 : ¬ 0 ≤ (σ.1 o 7)) => ?_)
        · exact And.intro rfl (And.intro rfl ⟨by rw [f_X5_guessToFill, if_neg h1, if_neg h2, if_pos h3, if_pos h4] <;> rfl, by rw [s_X5_guessToFill, if_neg h1, if_neg h2, if_pos h3, if_pos h4] <;> rfl⟩)
        · exact And.intro rfl (And.intro rfl ⟨by rw [f_X5_guessToFill, if_neg h1, if_neg h2, if_pos h3, if_neg h4] <;> rfl, by rw [s_X5_guessToFill, if_neg h1, if_neg h2, if_pos h3, if_neg h4] <;> rfl⟩)
      · exact And.intro rfl (And.intro rfl ⟨by rw [f_X5_guessToFill, if_neg h1, if_neg h2, if_neg h3] <;> rfl, by rw [s_X5_guessToFill, if_neg h1, if_neg h2, if_neg h3] <;> rfl⟩)
def f_X6_isBlank (x1 : Int32) : Int32 := if x1 = 32 then 1 else (if x1 = 10 then 1 else 0)
set_option maxRecDepth 100000 in
set_option maxHeartbeats 1000000 in
theorem c_X6_isBlank {nx : Nat} (x1 : Int32) (σ : zS) : zCl 1 zall nx zall nx 98 [.inl x1] σ (fun v σ1 => v = some (.inl (f_X6_isBlank x1)) ∧ σ1 = σ) := by
  refine zmeth (cd := kX6_isBlank) [] 1000 (Nat.le_of_ble_eq_true rfl) rfl okX6_isBlank (Nat.le_refl _) (Nat.le_of_ble_eq_true rfl) ?_
  refine And.intro (fun (h1 : x1 = 32) => ?_) (fun (h1 : ¬ x1 = 32) => ?_)
  · exact And.intro rfl (And.intro rfl (And.intro (Or.inr rfl) ⟨by rw [f_X6_isBlank, if_pos h1] <;> rfl, rfl⟩))
  · refine And.intro (fun (h2 : ¬ x1 = 10) => ?_) (fun (h2 : x1 = 10) => ?_)
    · exact And.intro rfl (And.intro rfl (And.intro (Or.inl rfl) ⟨by rw [f_X6_isBlank, if_neg h1, if_neg h2] <;> rfl, rfl⟩))
    · exact And.intro rfl (And.intro rfl (And.intro (Or.inr rfl) ⟨by rw [f_X6_isBlank, if_neg h1, if_pos h2] <;> rfl, rfl⟩))
theorem b_X6_isBlank {x1 : Int32} : f_X6_isBlank x1 = 0 ∨ f_X6_isBlank x1 = 1 := by
  unfold f_X6_isBlank
  (repeat' split) <;> first | exact Or.inl rfl | exact Or.inr rfl
def f_X6_isLetter (x1 : Int32) : Int32 := if x1 < 97 then 0 else (if 122 < x1 then 0 else 1)
set_option maxRecDepth 100000 in
set_option maxHeartbeats 1000000 in
theorem c_X6_isLetter {nx : Nat} (x1 : Int32) (σ : zS) : zCl 1 zall nx zall nx 99 [.inl x1] σ (fun v σ1 => v = some (.inl (f_X6_isLetter x1)) ∧ σ1 = σ) := by
  refine zmeth (cd := kX6_isLetter) [] 1000 (Nat.le_of_ble_eq_true rfl) rfl okX6_isLetter (Nat.le_refl _) (Nat.le_of_ble_eq_true rfl) ?_
  refine And.intro (fun (h1 : x1 < 97) => ?_) (fun (h1 : ¬ x1 < 97) => ?_)
  · exact And.intro rfl (And.intro rfl (And.intro (Or.inl rfl) ⟨by rw [f_X6_isLetter, if_pos h1] <;> rfl, rfl⟩))
  · refine And.intro (fun (h2 : 122 < x1) => ?_) (fun (h2 : ¬ 122 < x1) => ?_)
    · exact And.intro rfl (And.intro rfl (And.intro (Or.inl rfl) ⟨by rw [f_X6_isLetter, if_neg h1, if_pos h2] <;> rfl, rfl⟩))
    · exact And.intro rfl (And.intro rfl (And.intro (Or.inr rfl) ⟨by rw [f_X6_isLetter, if_neg h1, if_neg h2] <;> rfl, rfl⟩))
theorem b_X6_isLetter {x1 : Int32} : f_X6_isLetter x1 = 0 ∨ f_X6_isLetter x1 = 1 := by
  unfold f_X6_isLetter
  (repeat' split) <;> first | exact Or.inl rfl | exact Or.inr rfl
def f_X6_isDigit (x1 : Int32) : Int32 := if x1 < 48 then 0 else (if 57 < x1 then 0 else 1)
set_option maxRecDepth 100000 in
set_option maxHeartbeats 1000000 in
theorem c_X6_isDigit {nx : Nat} (x1 : Int32) (σ : zS) : zCl 1 zall nx zall nx 100 [.inl x1] σ (fun v σ1 => v = some (.inl (f_X6_isDigit x1)) ∧ σ1 = σ) := by
  refine zmeth (cd := kX6_isDigit) [] 1000 (Nat.le_of_ble_eq_true rfl) rfl okX6_isDigit (Nat.le_refl _) (Nat.le_of_ble_eq_true rfl) ?_
  refine And.intro (fun (h1 : x1 < 48) => ?_) (fun (h1 : ¬ x1 < 48) => ?_)
  · exact And.intro rfl (And.intro rfl (And.intro (Or.inl rfl) ⟨by rw [f_X6_isDigit, if_pos h1] <;> rfl, rfl⟩))
  · refine And.intro (fun (h2 : 57 < x1) => ?_) (fun (h2 : ¬ 57 < x1) => ?_)
    · exact And.intro rfl (And.intro rfl (And.intro (Or.inl rfl) ⟨by rw [f_X6_isDigit, if_neg h1, if_pos h2] <;> rfl, rfl⟩))
    · exact And.intro rfl (And.intro rfl (And.intro (Or.inr rfl) ⟨by rw [f_X6_isDigit, if_neg h1, if_neg h2] <;> rfl, rfl⟩))
theorem b_X6_isDigit {x1 : Int32} : f_X6_isDigit x1 = 0 ∨ f_X6_isDigit x1 = 1 := by
  unfold f_X6_isDigit
  (repeat' split) <;> first | exact Or.inl rfl | exact Or.inr rfl
def u_X8_end_1 (x1 : Int32) (σ : zS) : zS := zuI σ 0 1 x1
def f_X8_end (x1 : Int32) (σ : zS) : Int32 := if x1 < 0 then (-1) else (if x1 ≤ (σ.1 0 1) then x1 else (-1))
def s_X8_end (x1 : Int32) (σ : zS) : zS := if x1 < 0 then σ else (if x1 ≤ (σ.1 0 1) then (u_X8_end_1 x1 σ) else σ)
set_option maxRecDepth 100000 in
set_option maxHeartbeats 1000000 in
theorem c_X8_end {nx : Nat} (x1 : Int32) (σ : zS) : zCl 1 zall nx zall nx 110 [.inr (8, 16, 0), .inl x1] σ (fun v σ1 => v = some (.inl (f_X8_end x1 σ)) ∧ σ1 = s_X8_end x1 σ) := by
  refine zmeth (cd := kX8_end) [] 1000 (Nat.le_of_ble_eq_true rfl) rfl okX8_end (Nat.le_refl _) (Nat.le_of_ble_eq_true rfl) ?_
  refine And.intro (fun (h1 : x1 < 0) => ?_) (fun (h1 : ¬ x1 < 0) => ?_)
  · exact And.intro rfl (And.intro rfl ⟨by rw [f_X8_end, if_pos h1] <;> rfl, by rw [s_X8_end, if_pos h1] <;> rfl⟩)
  · refine And.intro (fun (h2 : x1 ≤ (σ.1 0 1)) => ?_) (fun (h2 : ¬ x1 ≤ (σ.1 0 1)) => ?_)
    · exact And.intro rfl (And.intro rfl ⟨by rw [f_X8_end, if_neg h1, if_pos h2] <;> rfl, by rw [s_X8_end, if_neg h1, if_pos h2] <;> rfl⟩)
    · exact And.intro rfl (And.intro rfl ⟨by rw [f_X8_end, if_neg h1, if_neg h2] <;> rfl, by rw [s_X8_end, if_neg h1, if_neg h2] <;> rfl⟩)
def f_X8_fault (x1 : Int32) (σ : zS) : Int32 := if x1 = 0 then (σ.1 0 3) else (if x1 = 1 then (σ.1 0 4) else (-1))
set_option maxRecDepth 100000 in
set_option maxHeartbeats 1000000 in
theorem c_X8_fault {nx : Nat} (x1 : Int32) (σ : zS) : zCl 1 zall nx zall nx 112 [.inr (8, 16, 0), .inl x1] σ (fun v σ1 => v = some (.inl (f_X8_fault x1 σ)) ∧ σ1 = σ) := by
  refine zmeth (cd := kX8_fault) [] 1000 (Nat.le_of_ble_eq_true rfl) rfl okX8_fault (Nat.le_refl _) (Nat.le_of_ble_eq_true rfl) ?_
  refine And.intro (fun (h1 : ¬ x1 = 0) => ?_) (fun (h1 : x1 = 0) => ?_)
  · refine And.intro (fun (h2 : ¬ x1 = 1) => ?_) (fun (h2 : x1 = 1) => ?_)
    · exact And.intro rfl (And.intro rfl ⟨by rw [f_X8_fault, if_neg h1, if_neg h2] <;> rfl, rfl⟩)
    · exact And.intro rfl (And.intro rfl ⟨by rw [f_X8_fault, if_neg h1, if_pos h2] <;> rfl, rfl⟩)
  · exact And.intro rfl (And.intro rfl ⟨by rw [f_X8_fault, if_pos h1] <;> rfl, rfl⟩)
def u_X8_undo_1 (σ : zS) : zS := s_X1_stepBack σ
def f_X8_undo (σ : zS) : Int32 := f_X1_stepBack σ
def s_X8_undo (σ : zS) : zS := (u_X8_undo_1 σ)
set_option maxRecDepth 100000 in
set_option maxHeartbeats 1000000 in
theorem c_X8_undo {nx : Nat} (σ : zS) : zCl 2 zall nx zall nx 118 [.inr (8, 16, 0)] σ (fun v σ1 => v = some (.inl (f_X8_undo σ)) ∧ σ1 = s_X8_undo σ) := by
  refine zmeth (cd := kX8_undo) [] 1000 (Nat.le_of_ble_eq_true rfl) rfl okX8_undo (Nat.le_refl _) (Nat.le_of_ble_eq_true rfl) ?_
  refine zCl.use (c_X1_stepBack σ) (Nat.le_of_ble_eq_true rfl) ?_
  rintro _ _ ⟨rfl, rfl⟩
  exact And.intro rfl (And.intro rfl (And.intro (b_X1_stepBack) ⟨by rw [f_X8_undo] <;> rfl, by rw [s_X8_undo] <;> rfl⟩))
theorem b_X8_undo {σ : zS} : f_X8_undo σ = 0 ∨ f_X8_undo σ = 1 := by
  unfold f_X8_undo
  (repeat' split) <;> first | exact Or.inl rfl | exact Or.inr rfl | exact b_X1_stepBack
def u_X8_redo_1 (σ : zS) : zS := s_X1_stepOn σ
def f_X8_redo (σ : zS) : Int32 := f_X1_stepOn σ
def s_X8_redo (σ : zS) : zS := (u_X8_redo_1 σ)
set_option maxRecDepth 100000 in
set_option maxHeartbeats 1000000 in
theorem c_X8_redo {nx : Nat} (σ : zS) : zCl 2 zall nx zall nx 119 [.inr (8, 16, 0)] σ (fun v σ1 => v = some (.inl (f_X8_redo σ)) ∧ σ1 = s_X8_redo σ) := by
  refine zmeth (cd := kX8_redo) [] 1000 (Nat.le_of_ble_eq_true rfl) rfl okX8_redo (Nat.le_refl _) (Nat.le_of_ble_eq_true rfl) ?_
  refine zCl.use (c_X1_stepOn σ) (Nat.le_of_ble_eq_true rfl) ?_
  rintro _ _ ⟨rfl, rfl⟩
  exact And.intro rfl (And.intro rfl (And.intro (b_X1_stepOn) ⟨by rw [f_X8_redo] <;> rfl, by rw [s_X8_redo] <;> rfl⟩))
theorem b_X8_redo {σ : zS} : f_X8_redo σ = 0 ∨ f_X8_redo σ = 1 := by
  unfold f_X8_redo
  (repeat' split) <;> first | exact Or.inl rfl | exact Or.inr rfl | exact b_X1_stepOn
def f_X8_at (n1 : Nat) (q1 : Nat) (x2 : Int32) (σ : zS) : Int32 := if x2 < 0 then 0 else (if (Int32.ofNat n1) ≤ x2 then 0 else (σ.1 q1 (x2).toNatClampNeg))
def p_X8_at (n1 : Nat) (q1 : Nat) (x2 : Int32) (σ : zS) : Prop := ¬ x2 < 0 → (¬ (Int32.ofNat n1) ≤ x2 → vp_in x2 n1)
set_option maxRecDepth 100000 in
set_option maxHeartbeats 1000000 in
theorem c_X8_at {nx : Nat} (n1 : Nat) (q1 : Nat) (x2 : Int32) (σ : zS) (hp : p_X8_at n1 q1 x2 σ) : zCl 1 zall nx zall nx 140 [.inr (20, n1, q1), .inl x2] σ (fun v σ1 => v = some (.inl (f_X8_at n1 q1 x2 σ)) ∧ σ1 = σ) := by
  refine zmeth (cd := kX8_at) [] 1000 (Nat.le_of_ble_eq_true rfl) rfl okX8_at (Nat.le_refl _) (Nat.le_of_ble_eq_true rfl) ?_
  refine And.intro (fun (h1 : x2 < 0) => ?_) (fun (h1 : ¬ x2 < 0) => ?_)
  · exact And.intro rfl (And.intro rfl ⟨by rw [f_X8_at, if_pos h1] <;> rfl, rfl⟩)
  · refine And.intro (fun (h2 : (Int32.ofNat n1) ≤ x2) => ?_) (fun (h2 : ¬ (Int32.ofNat n1) ≤ x2) => ?_)
    · exact And.intro rfl (And.intro rfl ⟨by rw [f_X8_at, if_neg h1, if_pos h2] <;> rfl, rfl⟩)
    · refine And.intro ((hp h1) h2) ?_
      exact And.intro rfl (And.intro rfl ⟨by rw [f_X8_at, if_neg h1, if_neg h2] <;> rfl, rfl⟩)
def u_X8_put_1 (n1 : Nat) (q1 : Nat) (x2 : Int32) (x3 : Int32) (σ : zS) : zS := zuI σ q1 (x2).toNatClampNeg x3
def s_X8_put (n1 : Nat) (q1 : Nat) (x2 : Int32) (x3 : Int32) (σ : zS) : zS := if x2 < 0 then σ else (if (Int32.ofNat n1) ≤ x2 then σ else (u_X8_put_1 n1 q1 x2 x3 σ))
def p_X8_put (n1 : Nat) (q1 : Nat) (x2 : Int32) (x3 : Int32) (σ : zS) : Prop := ¬ x2 < 0 → (¬ (Int32.ofNat n1) ≤ x2 → vp_in x2 n1)
set_option maxRecDepth 100000 in
set_option maxHeartbeats 1000000 in
theorem c_X8_put {nx : Nat} (n1 : Nat) (q1 : Nat) (x2 : Int32) (x3 : Int32) (σ : zS) (hp : p_X8_put n1 q1 x2 x3 σ) : zCl 1 zall nx zall nx 141 [.inr (20, n1, q1), .inl x2, .inl x3] σ (fun v σ1 => v = none ∧ σ1 = s_X8_put n1 q1 x2 x3 σ) := by
  refine zmeth (cd := kX8_put) [] 1000 (Nat.le_of_ble_eq_true rfl) rfl okX8_put (Nat.le_refl _) (Nat.le_of_ble_eq_true rfl) ?_
  refine And.intro (fun (h1 : x2 < 0) => ?_) (fun (h1 : ¬ x2 < 0) => ?_)
  · exact And.intro rfl (And.intro rfl ⟨rfl, by rw [s_X8_put, if_pos h1] <;> rfl⟩)
  · refine And.intro (fun (h2 : (Int32.ofNat n1) ≤ x2) => ?_) (fun (h2 : ¬ (Int32.ofNat n1) ≤ x2) => ?_)
    · exact And.intro rfl (And.intro rfl ⟨rfl, by rw [s_X8_put, if_neg h1, if_pos h2] <;> rfl⟩)
    · refine And.intro ((hp h1) h2) ?_
      exact And.intro rfl (And.intro rfl ⟨rfl, by rw [s_X8_put, if_neg h1, if_neg h2] <;> rfl⟩)
def f_X8_handlerCanBe (x1 : Int32) (x2 : Int32) : Int32 := if x1 = 0 then 1 else (if x1 = 1 then (if x2 < 1 then 0 else (if 8 < x2 then 0 else 1)) else (if x1 = 2 then 1 else (if x1 = 3 then (if x2 < 1 then 0 else (if 16 < x2 then 0 else 1)) else 0)))
set_option maxRecDepth 100000 in
set_option maxHeartbeats 1000000 in
theorem c_X8_handlerCanBe {nx : Nat} (x1 : Int32) (x2 : Int32) (σ : zS) : zCl 1 zall nx zall nx 142 [.inl x1, .inl x2] σ (fun v σ1 => v = some (.inl (f_X8_handlerCanBe x1 x2)) ∧ σ1 = σ) := by
  refine zmeth (cd := kX8_handlerCanBe) [] 1000 (Nat.le_of_ble_eq_true rfl) rfl okX8_handlerCanBe (Nat.le_refl _) (Nat.le_of_ble_eq_true rfl) ?_
  refine And.intro (fun (h1 : x1 = 0) => ?_) (fun (h1 : ¬ x1 = 0) => ?_)
  · exact And.intro rfl (And.intro rfl (And.intro (Or.inr rfl) ⟨by rw [f_X8_handlerCanBe, if_pos h1] <;> rfl, rfl⟩))
  · refine And.intro (fun (h2 : x1 = 1) => ?_) (fun (h2 : ¬ x1 = 1) => ?_)
    · refine And.intro (fun (h3 : x2 < 1) => ?_) (fun (h3 : ¬ x2 < 1) => ?_)
      · exact And.intro rfl (And.intro rfl (And.intro (Or.inl rfl) ⟨by rw [f_X8_handlerCanBe, if_neg h1, if_pos h2, if_pos h3] <;> rfl, rfl⟩))
      · refine And.intro (fun (h4 : 8 < x2) => ?_) (fun (h4 : ¬ 8 < x2) => ?_)
        · exact And.intro rfl (And.intro rfl (And.intro (Or.inl rfl) ⟨by rw [f_X8_handlerCanBe, if_neg h1, if_pos h2, if_neg h3, if_pos h4] <;> rfl, rfl⟩))
        · exact And.intro rfl (And.intro rfl (And.intro (Or.inr rfl) ⟨by rw [f_X8_handlerCanBe, if_neg h1, if_pos h2, if_neg h3, if_neg h4] <;> rfl, rfl⟩))
    · refine And.intro (fun (h5 : x1 = 2) => ?_) (fun (h5 : ¬ x1 = 2) => ?_)
      · exact And.intro rfl (And.intro rfl (And.intro (Or.inr rfl) ⟨by rw [f_X8_handlerCanBe, if_neg h1, if_neg h2, if_pos h5] <;> rfl, rfl⟩))
      · refine And.intro (fun (h6 : x1 = 3) => ?_) (fun (h6 : ¬ x1 = 3) => ?_)
        · refine And.intro (fun (h7 : x2 < 1) => ?_) (fun (h7 : ¬ x2 < 1) => ?_)
          · exact And.intro rfl (And.intro rfl (And.intro (Or.inl rfl) ⟨by rw [f_X8_handlerCanBe, if_neg h1, if_neg h2, if_neg h5, if_pos h6, if_pos h7] <;> rfl, rfl⟩))
          · refine And.intro (fun (h8 : 16 < x2) => ?_) (fun (h8 : ¬ 16 < x2) => ?_)
            · exact And.intro rfl (And.intro rfl (And.intro (Or.inl rfl) ⟨by rw [f_X8_handlerCanBe, if_neg h1, if_neg h2, if_neg h5, if_pos h6, if_neg h7, if_pos h8] <;> rfl, rfl⟩))
            · exact And.intro rfl (And.intro rfl (And.intro (Or.inr rfl) ⟨by rw [f_X8_handlerCanBe, if_neg h1, if_neg h2, if_neg h5, if_pos h6, if_neg h7, if_neg h8] <;> rfl, rfl⟩))
        · exact And.intro rfl (And.intro rfl (And.intro (Or.inl rfl) ⟨by rw [f_X8_handlerCanBe, if_neg h1, if_neg h2, if_neg h5, if_neg h6] <;> rfl, rfl⟩))
theorem b_X8_handlerCanBe {x1 : Int32} {x2 : Int32} : f_X8_handlerCanBe x1 x2 = 0 ∨ f_X8_handlerCanBe x1 x2 = 1 := by
  unfold f_X8_handlerCanBe
  (repeat' split) <;> first | exact Or.inl rfl | exact Or.inr rfl
def f_X8_isTask (x1 : Int32) (pP : Nat) (σ : zS) : Int32 := if x1 < 0 then 0 else (if (σ.1 pP 7) ≤ x1 then 0 else 1)
set_option maxRecDepth 100000 in
set_option maxHeartbeats 1000000 in
theorem c_X8_isTask {nx : Nat} (x1 : Int32) (pP : Nat) (σ : zS) (hpP : σ.2 0 5 = pP + 1) (lpP : zlay pP = (2, 16)) : zCl 1 zall nx zall nx 144 [.inr (8, 16, 0), .inl x1] σ (fun v σ1 => v = some (.inl (f_X8_isTask x1 pP σ)) ∧ σ1 = σ) := by
  refine zmeth (cd := kX8_isTask) [] 1000 (Nat.le_of_ble_eq_true rfl) rfl okX8_isTask (Nat.le_refl _) (Nat.le_of_ble_eq_true rfl) ?_
  refine And.intro (fun (h1 : x1 < 0) => ?_) (fun (h1 : ¬ x1 < 0) => ?_)
  · exact And.intro rfl (And.intro rfl (And.intro (Or.inl rfl) ⟨by rw [f_X8_isTask, if_pos h1] <;> rfl, rfl⟩))
  · refine And.intro (show σ.2 0 5 ≠ 0 by omega) (fun q0 (e0 : σ.2 0 5 = q0 + 1) => ?_)
    have e1 : q0 = pP := by omega
    subst e1
    rw [lpP]
    refine And.intro (fun (h2 : (σ.1 pP 7) ≤ x1) => ?_) (fun (h2 : ¬ (σ.1 pP 7) ≤ x1) => ?_)
    · exact And.intro rfl (And.intro rfl (And.intro (Or.inl rfl) ⟨by rw [f_X8_isTask, if_neg h1, if_pos h2] <;> rfl, rfl⟩))
    · exact And.intro rfl (And.intro rfl (And.intro (Or.inr rfl) ⟨by rw [f_X8_isTask, if_neg h1, if_neg h2] <;> rfl, rfl⟩))
theorem b_X8_isTask {x1 : Int32} {pP : Nat} {σ : zS} : f_X8_isTask x1 pP σ = 0 ∨ f_X8_isTask x1 pP σ = 1 := by
  unfold f_X8_isTask
  (repeat' split) <;> first | exact Or.inl rfl | exact Or.inr rfl
def f_X9_isIn (x1 : Int32) (x2 : Int32) (x3 : Int32) : Int32 := if x1 < x2 then 0 else (if x3 < x1 then 0 else 1)
set_option maxRecDepth 100000 in
set_option maxHeartbeats 1000000 in
theorem c_X9_isIn {nx : Nat} (x1 : Int32) (x2 : Int32) (x3 : Int32) (σ : zS) : zCl 1 zall nx zall nx 152 [.inl x1, .inl x2, .inl x3] σ (fun v σ1 => v = some (.inl (f_X9_isIn x1 x2 x3)) ∧ σ1 = σ) := by
  refine zmeth (cd := kX9_isIn) [] 1000 (Nat.le_of_ble_eq_true rfl) rfl okX9_isIn (Nat.le_refl _) (Nat.le_of_ble_eq_true rfl) ?_
  refine And.intro (fun (h1 : x1 < x2) => ?_) (fun (h1 : ¬ x1 < x2) => ?_)
  · exact And.intro rfl (And.intro rfl (And.intro (Or.inl rfl) ⟨by rw [f_X9_isIn, if_pos h1] <;> rfl, rfl⟩))
  · refine And.intro (fun (h2 : x3 < x1) => ?_) (fun (h2 : ¬ x3 < x1) => ?_)
    · exact And.intro rfl (And.intro rfl (And.intro (Or.inl rfl) ⟨by rw [f_X9_isIn, if_neg h1, if_pos h2] <;> rfl, rfl⟩))
    · exact And.intro rfl (And.intro rfl (And.intro (Or.inr rfl) ⟨by rw [f_X9_isIn, if_neg h1, if_neg h2] <;> rfl, rfl⟩))
theorem b_X9_isIn {x1 : Int32} {x2 : Int32} {x3 : Int32} : f_X9_isIn x1 x2 x3 = 0 ∨ f_X9_isIn x1 x2 x3 = 1 := by
  unfold f_X9_isIn
  (repeat' split) <;> first | exact Or.inl rfl | exact Or.inr rfl
def f_X9_less (x1 : Int32) (x2 : Int32) : Int32 := if x2 ≤ x1 then x2 else x1
set_option maxRecDepth 100000 in
set_option maxHeartbeats 1000000 in
theorem c_X9_less {nx : Nat} (x1 : Int32) (x2 : Int32) (σ : zS) : zCl 1 zall nx zall nx 153 [.inl x1, .inl x2] σ (fun v σ1 => v = some (.inl (f_X9_less x1 x2)) ∧ σ1 = σ) := by
  refine zmeth (cd := kX9_less) [] 1000 (Nat.le_of_ble_eq_true rfl) rfl okX9_less (Nat.le_refl _) (Nat.le_of_ble_eq_true rfl) ?_
  refine And.intro (fun (h1 : x2 ≤ x1) => ?_) (fun (h1 : ¬ x2 ≤ x1) => ?_)
  · exact And.intro rfl (And.intro rfl ⟨by rw [f_X9_less, if_pos h1] <;> rfl, rfl⟩)
  · exact And.intro rfl (And.intro rfl ⟨by rw [f_X9_less, if_neg h1] <;> rfl, rfl⟩)
def f_X9_more (x1 : Int32) (x2 : Int32) : Int32 := if x1 ≤ x2 then x2 else x1
set_option maxRecDepth 100000 in
set_option maxHeartbeats 1000000 in
theorem c_X9_more {nx : Nat} (x1 : Int32) (x2 : Int32) (σ : zS) : zCl 1 zall nx zall nx 154 [.inl x1, .inl x2] σ (fun v σ1 => v = some (.inl (f_X9_more x1 x2)) ∧ σ1 = σ) := by
  refine zmeth (cd := kX9_more) [] 1000 (Nat.le_of_ble_eq_true rfl) rfl okX9_more (Nat.le_refl _) (Nat.le_of_ble_eq_true rfl) ?_
  refine And.intro (fun (h1 : x1 ≤ x2) => ?_) (fun (h1 : ¬ x1 ≤ x2) => ?_)
  · exact And.intro rfl (And.intro rfl ⟨by rw [f_X9_more, if_pos h1] <;> rfl, rfl⟩)
  · exact And.intro rfl (And.intro rfl ⟨by rw [f_X9_more, if_neg h1] <;> rfl, rfl⟩)
def u_X9_clearBank_1 (x1 : Int32) (σ : zS) : zS := zuI σ 470 (x1).toNatClampNeg 6
def u_X9_clearBank_2 (x1 : Int32) (σ : zS) : zS := zuI (u_X9_clearBank_1 x1 σ) 471 (x1).toNatClampNeg 0
def u_X9_clearBank_3 (x1 : Int32) (σ : zS) : zS := zuI (u_X9_clearBank_2 x1 σ) 472 (x1).toNatClampNeg 0
def u_X9_clearBank_4 (x1 : Int32) (σ : zS) : zS := zuI (u_X9_clearBank_3 x1 σ) 473 (x1).toNatClampNeg 8
def u_X9_clearBank_5 (x1 : Int32) (σ : zS) : zS := zuI (u_X9_clearBank_4 x1 σ) 474 (x1).toNatClampNeg 10
def u_X9_clearBank_6 (x1 : Int32) (σ : zS) : zS := zuI (u_X9_clearBank_5 x1 σ) 475 (x1).toNatClampNeg 1
def u_X9_clearBank_7 (x1 : Int32) (σ : zS) : zS := zuI (u_X9_clearBank_6 x1 σ) 476 (x1).toNatClampNeg 0
def u_X9_clearBank_8 (x1 : Int32) (σ : zS) : zS := zuI (u_X9_clearBank_7 x1 σ) 477 (x1).toNatClampNeg 0
def u_X9_clearBank_9 (x1 : Int32) (σ : zS) : zS := zuI (u_X9_clearBank_8 x1 σ) 478 (x1).toNatClampNeg 0
def u_X9_clearBank_10 (x1 : Int32) (σ : zS) : zS := zuI (u_X9_clearBank_9 x1 σ) 479 (x1).toNatClampNeg 0
def s_X9_clearBank (x1 : Int32) (σ : zS) : zS := (u_X9_clearBank_10 x1 σ)
def p_X9_clearBank (x1 : Int32) (σ : zS) : Prop := vp_in x1 2
set_option maxRecDepth 100000 in
set_option maxHeartbeats 1000000 in
theorem c_X9_clearBank {nx : Nat} (x1 : Int32) (σ : zS) (hp : p_X9_clearBank x1 σ) : zCl 1 zall nx zall nx 155 [.inr (9, 57, 468), .inl x1] σ (fun v σ1 => v = none ∧ σ1 = s_X9_clearBank x1 σ) := by
  refine zmeth (cd := kX9_clearBank) [] 1000 (Nat.le_of_ble_eq_true rfl) rfl okX9_clearBank (Nat.le_refl _) (Nat.le_of_ble_eq_true rfl) ?_
  refine And.intro hp ?_
  refine And.intro hp ?_
  refine And.intro hp ?_
  refine And.intro hp ?_
  refine And.intro hp ?_
  refine And.intro hp ?_
  refine And.intro hp ?_
  refine And.intro hp ?_
  refine And.intro hp ?_
  refine And.intro hp ?_
  exact And.intro rfl (And.intro rfl ⟨rfl, by rw [s_X9_clearBank] <;> rfl⟩)
def u_X9_end_1 (x1 : Int32) (σ : zS) : zS := zuI σ 468 18 x1
def f_X9_end (x1 : Int32) (σ : zS) : Int32 := if x1 < 0 then (-1) else (if x1 ≤ (σ.1 468 18) then x1 else (-1))
def s_X9_end (x1 : Int32) (σ : zS) : zS := if x1 < 0 then σ else (if x1 ≤ (σ.1 468 18) then (u_X9_end_1 x1 σ) else σ)
set_option maxRecDepth 100000 in
set_option maxHeartbeats 1000000 in
theorem c_X9_end {nx : Nat} (x1 : Int32) (σ : zS) : zCl 1 zall nx zall nx 157 [.inr (9, 57, 468), .inl x1] σ (fun v σ1 => v = some (.inl (f_X9_end x1 σ)) ∧ σ1 = s_X9_end x1 σ) := by
  refine zmeth (cd := kX9_end) [] 1000 (Nat.le_of_ble_eq_true rfl) rfl okX9_end (Nat.le_refl _) (Nat.le_of_ble_eq_true rfl) ?_
  refine And.intro (fun (h1 : x1 < 0) => ?_) (fun (h1 : ¬ x1 < 0) => ?_)
  · exact And.intro rfl (And.intro rfl ⟨by rw [f_X9_end, if_pos h1] <;> rfl, by rw [s_X9_end, if_pos h1] <;> rfl⟩)
  · refine And.intro (fun (h2 : x1 ≤ (σ.1 468 18)) => ?_) (fun (h2 : ¬ x1 ≤ (σ.1 468 18)) => ?_)
    · exact And.intro rfl (And.intro rfl ⟨by rw [f_X9_end, if_neg h1, if_pos h2] <;> rfl, by rw [s_X9_end, if_neg h1, if_pos h2] <;> rfl⟩)
    · exact And.intro rfl (And.intro rfl ⟨by rw [f_X9_end, if_neg h1, if_neg h2] <;> rfl, by rw [s_X9_end, if_neg h1, if_neg h2] <;> rfl⟩)
def f_X9_signAt (x1 : Int32) (σ : zS) : Int32 := if (σ.1 468 19) ≤ x1 then 0 else (σ.1 485 (x1).toNatClampNeg)
def p_X9_signAt (x1 : Int32) (σ : zS) : Prop := ¬ (σ.1 468 19) ≤ x1 → vp_in x1 1000
set_option maxRecDepth 100000 in
set_option maxHeartbeats 1000000 in
theorem c_X9_signAt {nx : Nat} (x1 : Int32) (σ : zS) (hp : p_X9_signAt x1 σ) : zCl 1 zall nx zall nx 158 [.inr (9, 57, 468), .inl x1] σ (fun v σ1 => v = some (.inl (f_X9_signAt x1 σ)) ∧ σ1 = σ) := by
  refine zmeth (cd := kX9_signAt) [] 1000 (Nat.le_of_ble_eq_true rfl) rfl okX9_signAt (Nat.le_refl _) (Nat.le_of_ble_eq_true rfl) ?_
  refine And.intro (fun (h1 : (σ.1 468 19) ≤ x1) => ?_) (fun (h1 : ¬ (σ.1 468 19) ≤ x1) => ?_)
  · exact And.intro rfl (And.intro rfl ⟨by rw [f_X9_signAt, if_pos h1] <;> rfl, rfl⟩)
  · refine And.intro (hp h1) ?_
    exact And.intro rfl (And.intro rfl ⟨by rw [f_X9_signAt, if_neg h1] <;> rfl, rfl⟩)
def f_X9_isLetter (x1 : Int32) : Int32 := if x1 < 97 then 0 else (if 122 < x1 then 0 else 1)
set_option maxRecDepth 100000 in
set_option maxHeartbeats 1000000 in
theorem c_X9_isLetter {nx : Nat} (x1 : Int32) (σ : zS) : zCl 1 zall nx zall nx 159 [.inl x1] σ (fun v σ1 => v = some (.inl (f_X9_isLetter x1)) ∧ σ1 = σ) := by
  refine zmeth (cd := kX9_isLetter) [] 1000 (Nat.le_of_ble_eq_true rfl) rfl okX9_isLetter (Nat.le_refl _) (Nat.le_of_ble_eq_true rfl) ?_
  refine And.intro (fun (h1 : x1 < 97) => ?_) (fun (h1 : ¬ x1 < 97) => ?_)
  · exact And.intro rfl (And.intro rfl (And.intro (Or.inl rfl) ⟨by rw [f_X9_isLetter, if_pos h1] <;> rfl, rfl⟩))
  · refine And.intro (fun (h2 : 122 < x1) => ?_) (fun (h2 : ¬ 122 < x1) => ?_)
    · exact And.intro rfl (And.intro rfl (And.intro (Or.inl rfl) ⟨by rw [f_X9_isLetter, if_neg h1, if_pos h2] <;> rfl, rfl⟩))
    · exact And.intro rfl (And.intro rfl (And.intro (Or.inr rfl) ⟨by rw [f_X9_isLetter, if_neg h1, if_neg h2] <;> rfl, rfl⟩))
theorem b_X9_isLetter {x1 : Int32} : f_X9_isLetter x1 = 0 ∨ f_X9_isLetter x1 = 1 := by
  unfold f_X9_isLetter
  (repeat' split) <;> first | exact Or.inl rfl | exact Or.inr rfl
def f_X9_isDigit (x1 : Int32) : Int32 := if x1 < 48 then 0 else (if 57 < x1 then 0 else 1)
set_option maxRecDepth 100000 in
set_option maxHeartbeats 1000000 in
theorem c_X9_isDigit {nx : Nat} (x1 : Int32) (σ : zS) : zCl 1 zall nx zall nx 160 [.inl x1] σ (fun v σ1 => v = some (.inl (f_X9_isDigit x1)) ∧ σ1 = σ) := by
  refine zmeth (cd := kX9_isDigit) [] 1000 (Nat.le_of_ble_eq_true rfl) rfl okX9_isDigit (Nat.le_refl _) (Nat.le_of_ble_eq_true rfl) ?_
  refine And.intro (fun (h1 : x1 < 48) => ?_) (fun (h1 : ¬ x1 < 48) => ?_)
  · exact And.intro rfl (And.intro rfl (And.intro (Or.inl rfl) ⟨by rw [f_X9_isDigit, if_pos h1] <;> rfl, rfl⟩))
  · refine And.intro (fun (h2 : 57 < x1) => ?_) (fun (h2 : ¬ 57 < x1) => ?_)
    · exact And.intro rfl (And.intro rfl (And.intro (Or.inl rfl) ⟨by rw [f_X9_isDigit, if_neg h1, if_pos h2] <;> rfl, rfl⟩))
    · exact And.intro rfl (And.intro rfl (And.intro (Or.inr rfl) ⟨by rw [f_X9_isDigit, if_neg h1, if_neg h2] <;> rfl, rfl⟩))
theorem b_X9_isDigit {x1 : Int32} : f_X9_isDigit x1 = 0 ∨ f_X9_isDigit x1 = 1 := by
  unfold f_X9_isDigit
  (repeat' split) <;> first | exact Or.inl rfl | exact Or.inr rfl
def f_X9_isSign (x1 : Int32) : Int32 := if x1 = 59 then 1 else (if x1 = 61 then 1 else (if x1 = 40 then 1 else (if x1 = 41 then 1 else (if x1 = 44 then 1 else (if x1 = 43 then 1 else (if x1 = 45 then 1 else (if x1 = 42 then 1 else (if x1 = 47 then 1 else (if x1 = 37 then 1 else (if x1 = 60 then 1 else (if x1 = 62 then 1 else 0)))))))))))
set_option maxRecDepth 100000 in
set_option maxHeartbeats 1000000 in
theorem c_X9_isSign {nx : Nat} (x1 : Int32) (σ : zS) : zCl 1 zall nx zall nx 161 [.inl x1] σ (fun v σ1 => v = some (.inl (f_X9_isSign x1)) ∧ σ1 = σ) := by
  refine zmeth (cd := kX9_isSign) [] 1000 (Nat.le_of_ble_eq_true rfl) rfl okX9_isSign (Nat.le_refl _) (Nat.le_of_ble_eq_true rfl) ?_
  refine And.intro (fun (h1 : x1 = 59) => ?_) (fun (h1 : ¬ x1 = 59) => ?_)
  · exact And.intro rfl (And.intro rfl (And.intro (Or.inr rfl) ⟨by rw [f_X9_isSign, if_pos h1] <;> rfl, rfl⟩))
  · refine And.intro (fun (h2 : x1 = 61) => ?_) (fun (h2 : ¬ x1 = 61) => ?_)
    · exact And.intro rfl (And.intro rfl (And.intro (Or.inr rfl) ⟨by rw [f_X9_isSign, if_neg h1, if_pos h2] <;> rfl, rfl⟩))
    · refine And.intro (fun (h3 : x1 = 40) => ?_) (fun (h3 : ¬ x1 = 40) => ?_)
      · exact And.intro rfl (And.intro rfl (And.intro (Or.inr rfl) ⟨by rw [f_X9_isSign, if_neg h1, if_neg h2, if_pos h3] <;> rfl, rfl⟩))
      · refine And.intro (fun (h4 : x1 = 41) => ?_) (fun (h4 : ¬ x1 = 41) => ?_)
        · exact And.intro rfl (And.intro rfl (And.intro (Or.inr rfl) ⟨by rw [f_X9_isSign, if_neg h1, if_neg h2, if_neg h3, if_pos h4] <;> rfl, rfl⟩))
        · refine And.intro (fun (h5 : x1 = 44) => ?_) (fun (h5 : ¬ x1 = 44) => ?_)
          · exact And.intro rfl (And.intro rfl (And.intro (Or.inr rfl) ⟨by rw [f_X9_isSign, if_neg h1, if_neg h2, if_neg h3, if_neg h4, if_pos h5] <;> rfl, rfl⟩))
          · refine And.intro (fun (h6 : x1 = 43) => ?_) (fun (h6 : ¬ x1 = 43) => ?_)
            · exact And.intro rfl (And.intro rfl (And.intro (Or.inr rfl) ⟨by rw [f_X9_isSign, if_neg h1, if_neg h2, if_neg h3, if_neg h4, if_neg h5, if_pos h6] <;> rfl, rfl⟩))
            · refine And.intro (fun (h7 : x1 = 45) => ?_) (fun (h7 : ¬ x1 = 45) => ?_)
              · exact And.intro rfl (And.intro rfl (And.intro (Or.inr rfl) ⟨by rw [f_X9_isSign, if_neg h1, if_neg h2, if_neg h3, if_neg h4, if_neg h5, if_neg h6, if_pos h7] <;> rfl, rfl⟩))
              · refine And.intro (fun (h8 : x1 = 42) => ?_) (fun (h8 : ¬ x1 = 42) => ?_)
                · exact And.intro rfl (And.intro rfl (And.intro (Or.inr rfl) ⟨by rw [f_X9_isSign, if_neg h1, if_neg h2, if_neg h3, if_neg h4, if_neg h5, if_neg h6, if_neg h7, if_pos h8] <;> rfl, rfl⟩))
                · refine And.intro (fun (h9 : x1 = 47) => ?_) (fun (h9 : ¬ x1 = 47) => ?_)
                  · exact And.intro rfl (And.intro rfl (And.intro (Or.inr rfl) ⟨by rw [f_X9_isSign, if_neg h1, if_neg h2, if_neg h3, if_neg h4, if_neg h5, if_neg h6, if_neg h7, if_neg h8, if_pos h9] <;> rfl, rfl⟩))
                  · refine And.intro (fun (h10 : x1 = 37) => ?_) (fun (h10 : ¬ x1 = 37) => ?_)
                    · exact And.intro rfl (And.intro rfl (And.intro (Or.inr rfl) ⟨by rw [f_X9_isSign, if_neg h1, if_neg h2, if_neg h3, if_neg h4, if_neg h5, if_neg h6, if_neg h7, if_neg h8, if_neg h9, if_pos h10] <;> rfl, rfl⟩))
                    · refine And.intro (fun (h11 : x1 = 60) => ?_) (fun (h11 : ¬ x1 = 60) => ?_)
                      · exact And.intro rfl (And.intro rfl (And.intro (Or.inr rfl) ⟨by rw [f_X9_isSign, if_neg h1, if_neg h2, if_neg h3, if_neg h4, if_neg h5, if_neg h6, if_neg h7, if_neg h8, if_neg h9, if_neg h10, if_pos h11] <;> rfl, rfl⟩))
                      · refine And.intro (fun (h12 : ¬ x1 = 62) => ?_) (fun (h12 : x1 = 62) => ?_)
                        · exact And.intro rfl (And.intro rfl (And.intro (Or.inl rfl) ⟨by rw [f_X9_isSign, if_neg h1, if_neg h2, if_neg h3, if_neg h4, if_neg h5, if_neg h6, if_neg h7, if_neg h8, if_neg h9, if_neg h10, if_neg h11, if_neg h12] <;> rfl, rfl⟩))
                        · exact And.intro rfl (And.intro rfl (And.intro (Or.inr rfl) ⟨by rw [f_X9_isSign, if_neg h1, if_neg h2, if_neg h3, if_neg h4, if_neg h5, if_neg h6, if_neg h7, if_neg h8, if_neg h9, if_neg h10, if_neg h11, if_pos h12] <;> rfl, rfl⟩))
theorem b_X9_isSign {x1 : Int32} : f_X9_isSign x1 = 0 ∨ f_X9_isSign x1 = 1 := by
  unfold f_X9_isSign
  (repeat' split) <;> first | exact Or.inl rfl | exact Or.inr rfl
def f_X9_isBlank (x1 : Int32) (σ : zS) : Int32 := if (σ.1 468 19) ≤ x1 then 0 else (if (σ.1 485 (x1).toNatClampNeg) = 32 then 1 else (if (σ.1 485 (x1).toNatClampNeg) = 10 then 1 else 0))
def p_X9_isBlank (x1 : Int32) (σ : zS) : Prop := ¬ (σ.1 468 19) ≤ x1 → vp_in x1 1000
set_option maxRecDepth 100000 in
set_option maxHeartbeats 1000000 in
theorem c_X9_isBlank {nx : Nat} (x1 : Int32) (σ : zS) (hp : p_X9_isBlank x1 σ) : zCl 1 zall nx zall nx 162 [.inr (9, 57, 468), .inl x1] σ (fun v σ1 => v = some (.inl (f_X9_isBlank x1 σ)) ∧ σ1 = σ) := by
  refine zmeth (cd := kX9_isBlank) [] 1000 (Nat.le_of_ble_eq_true rfl) rfl okX9_isBlank (Nat.le_refl _) (Nat.le_of_ble_eq_true rfl) ?_
  refine And.intro (fun (h1 : (σ.1 468 19) ≤ x1) => ?_) (fun (h1 : ¬ (σ.1 468 19) ≤ x1) => ?_)
  · exact And.intro rfl (And.intro rfl (And.intro (Or.inl rfl) ⟨by rw [f_X9_isBlank, if_pos h1] <;> rfl, rfl⟩))
  · refine And.intro (hp h1) ?_
    refine And.intro (fun (h2 : (σ.1 485 (x1).toNatClampNeg) = 32) => ?_) (fun (h2 : ¬ (σ.1 485 (x1).toNatClampNeg) = 32) => ?_)
    · exact And.intro rfl (And.intro rfl (And.intro (Or.inr rfl) ⟨by rw [f_X9_isBlank, if_neg h1, if_pos h2] <;> rfl, rfl⟩))
    · refine And.intro (hp h1) ?_
      refine And.intro (fun (h3 : ¬ (σ.1 485 (x1).toNatClampNeg) = 10) => ?_) (fun (h3 : (σ.1 485 (x1).toNatClampNeg) = 10) => ?_)
      · exact And.intro rfl (And.intro rfl (And.intro (Or.inl rfl) ⟨by rw [f_X9_isBlank, if_neg h1, if_neg h2, if_neg h3] <;> rfl, rfl⟩))
      · exact And.intro rfl (And.intro rfl (And.intro (Or.inr rfl) ⟨by rw [f_X9_isBlank, if_neg h1, if_neg h2, if_pos h3] <;> rfl, rfl⟩))
theorem b_X9_isBlank {x1 : Int32} {σ : zS} : f_X9_isBlank x1 σ = 0 ∨ f_X9_isBlank x1 σ = 1 := by
  unfold f_X9_isBlank
  (repeat' split) <;> first | exact Or.inl rfl | exact Or.inr rfl
def u_X9_fail_1 (x1 : Int32) (σ : zS) : zS := zuI σ 468 25 x1
def u_X9_fail_2 (x1 : Int32) (σ : zS) : zS := zuI (u_X9_fail_1 x1 σ) 468 26 ((u_X9_fail_1 x1 σ).1 468 21)
def s_X9_fail (x1 : Int32) (σ : zS) : zS := if (σ.1 468 25) ≤ 0 then (u_X9_fail_2 x1 σ) else σ
set_option maxRecDepth 100000 in
set_option maxHeartbeats 1000000 in
theorem c_X9_fail {nx : Nat} (x1 : Int32) (σ : zS) : zCl 1 zall nx zall nx 167 [.inr (9, 57, 468), .inl x1] σ (fun v σ1 => v = none ∧ σ1 = s_X9_fail x1 σ) := by
  refine zmeth (cd := kX9_fail) [] 1000 (Nat.le_of_ble_eq_true rfl) rfl okX9_fail (Nat.le_refl _) (Nat.le_of_ble_eq_true rfl) ?_
  refine And.intro (fun (h1 : (σ.1 468 25) ≤ 0) => ?_) (fun (h1 : ¬ (σ.1 468 25) ≤ 0) => ?_)
  · exact And.intro rfl (And.intro rfl ⟨rfl, by rw [s_X9_fail, if_pos h1] <;> rfl⟩)
  · exact And.intro rfl (And.intro rfl ⟨rfl, by rw [s_X9_fail, if_neg h1] <;> rfl⟩)
def f_X9_isAt (x1 : Int32) (σ : zS) : Int32 := if (σ.1 468 25) = 0 then (if (σ.1 468 22) = 4 then (if (f_X9_signAt (σ.1 468 21) σ) = x1 then 1 else 0) else 0) else 0
def p_X9_isAt (x1 : Int32) (σ : zS) : Prop := (σ.1 468 25) = 0 → ((σ.1 468 22) = 4 → p_X9_signAt (σ.1 468 21) σ)
set_option maxRecDepth 100000 in
set_option maxHeartbeats 1000000 in
theorem c_X9_isAt {nx : Nat} (x1 : Int32) (σ : zS) (hp : p_X9_isAt x1 σ) : zCl 2 zall nx zall nx 168 [.inr (9, 57, 468), .inl x1] σ (fun v σ1 => v = some (.inl (f_X9_isAt x1 σ)) ∧ σ1 = σ) := by
  refine zmeth (cd := kX9_isAt) [] 1000 (Nat.le_of_ble_eq_true rfl) rfl okX9_isAt (Nat.le_refl _) (Nat.le_of_ble_eq_true rfl) ?_
  refine And.intro (fun (h1 : ¬ (σ.1 468 25) = 0) => ?_) (fun (h1 : (σ.1 468 25) = 0) => ?_)
  · exact And.intro rfl (And.intro rfl (And.intro (Or.inl rfl) ⟨by rw [f_X9_isAt, if_neg h1] <;> rfl, rfl⟩))
  · refine And.intro (fun (h2 : ¬ (σ.1 468 22) = 4) => ?_) (fun (h2 : (σ.1 468 22) = 4) => ?_)
    · exact And.intro rfl (And.intro rfl (And.intro (Or.inl rfl) ⟨by rw [f_X9_isAt, if_pos h1, if_neg h2] <;> rfl, rfl⟩))
    · refine zCl.use (c_X9_signAt (σ.1 468 21) σ ((hp h1) h2)) (Nat.le_of_ble_eq_true rfl) ?_
      rintro _ _ ⟨rfl, rfl⟩
      refine And.intro (fun (h3 : ¬ (f_X9_signAt (σ.1 468 21) σ) = x1) => ?_) (fun (h3 : (f_X9_signAt (σ.1 468 21) σ) = x1) => ?_)
      · exact And.intro rfl (And.intro rfl (And.intro (Or.inl rfl) ⟨by rw [f_X9_isAt, if_pos h1, if_pos h2, if_neg h3] <;> rfl, rfl⟩))
      · exact And.intro rfl (And.intro rfl (And.intro (Or.inr rfl) ⟨by rw [f_X9_isAt, if_pos h1, if_pos h2, if_pos h3] <;> rfl, rfl⟩))
theorem b_X9_isAt {x1 : Int32} {σ : zS} : f_X9_isAt x1 σ = 0 ∨ f_X9_isAt x1 σ = 1 := by
  unfold f_X9_isAt
  (repeat' split) <;> first | exact Or.inl rfl | exact Or.inr rfl
def f_X9_isWord (x1 : Int32) (σ : zS) : Int32 := if (σ.1 468 25) = 0 then (if (σ.1 468 22) = 2 then (if (σ.1 468 24) = x1 then 1 else 0) else 0) else 0
set_option maxRecDepth 100000 in
set_option maxHeartbeats 1000000 in
theorem c_X9_isWord {nx : Nat} (x1 : Int32) (σ : zS) : zCl 1 zall nx zall nx 169 [.inr (9, 57, 468), .inl x1] σ (fun v σ1 => v = some (.inl (f_X9_isWord x1 σ)) ∧ σ1 = σ) := by
  refine zmeth (cd := kX9_isWord) [] 1000 (Nat.le_of_ble_eq_true rfl) rfl okX9_isWord (Nat.le_refl _) (Nat.le_of_ble_eq_true rfl) ?_
  refine And.intro (fun (h1 : ¬ (σ.1 468 25) = 0) => ?_) (fun (h1 : (σ.1 468 25) = 0) => ?_)
  · exact And.intro rfl (And.intro rfl (And.intro (Or.inl rfl) ⟨by rw [f_X9_isWord, if_neg h1] <;> rfl, rfl⟩))
  · refine And.intro (fun (h2 : ¬ (σ.1 468 22) = 2) => ?_) (fun (h2 : (σ.1 468 22) = 2) => ?_)
    · exact And.intro rfl (And.intro rfl (And.intro (Or.inl rfl) ⟨by rw [f_X9_isWord, if_pos h1, if_neg h2] <;> rfl, rfl⟩))
    · refine And.intro (fun (h3 : ¬ (σ.1 468 24) = x1) => ?_) (fun (h3 : (σ.1 468 24) = x1) => ?_)
      · exact And.intro rfl (And.intro rfl (And.intro (Or.inl rfl) ⟨by rw [f_X9_isWord, if_pos h1, if_pos h2, if_neg h3] <;> rfl, rfl⟩))
      · exact And.intro rfl (And.intro rfl (And.intro (Or.inr rfl) ⟨by rw [f_X9_isWord, if_pos h1, if_pos h2, if_pos h3] <;> rfl, rfl⟩))
theorem b_X9_isWord {x1 : Int32} {σ : zS} : f_X9_isWord x1 σ = 0 ∨ f_X9_isWord x1 σ = 1 := by
  unfold f_X9_isWord
  (repeat' split) <;> first | exact Or.inl rfl | exact Or.inr rfl
def f_X9_isName (σ : zS) : Int32 := if (σ.1 468 25) = 0 then (if (σ.1 468 22) = 2 then (if (σ.1 468 24) = (-1) then 1 else 0) else 0) else 0
set_option maxRecDepth 100000 in
set_option maxHeartbeats 1000000 in
theorem c_X9_isName {nx : Nat} (σ : zS) : zCl 1 zall nx zall nx 170 [.inr (9, 57, 468)] σ (fun v σ1 => v = some (.inl (f_X9_isName σ)) ∧ σ1 = σ) := by
  refine zmeth (cd := kX9_isName) [] 1000 (Nat.le_of_ble_eq_true rfl) rfl okX9_isName (Nat.le_refl _) (Nat.le_of_ble_eq_true rfl) ?_
  refine And.intro (fun (h1 : ¬ (σ.1 468 25) = 0) => ?_) (fun (h1 : (σ.1 468 25) = 0) => ?_)
  · exact And.intro rfl (And.intro rfl (And.intro (Or.inl rfl) ⟨by rw [f_X9_isName, if_neg h1] <;> rfl, rfl⟩))
  · refine And.intro (fun (h2 : ¬ (σ.1 468 22) = 2) => ?_) (fun (h2 : (σ.1 468 22) = 2) => ?_)
    · exact And.intro rfl (And.intro rfl (And.intro (Or.inl rfl) ⟨by rw [f_X9_isName, if_pos h1, if_neg h2] <;> rfl, rfl⟩))
    · refine And.intro (fun (h3 : ¬ (σ.1 468 24) = (-1)) => ?_) (fun (h3 : (σ.1 468 24) = (-1)) => ?_)
      · exact And.intro rfl (And.intro rfl (And.intro (Or.inl rfl) ⟨by rw [f_X9_isName, if_pos h1, if_pos h2, if_neg h3] <;> rfl, rfl⟩))
      · exact And.intro rfl (And.intro rfl (And.intro (Or.inr rfl) ⟨by rw [f_X9_isName, if_pos h1, if_pos h2, if_pos h3] <;> rfl, rfl⟩))
theorem b_X9_isName {σ : zS} : f_X9_isName σ = 0 ∨ f_X9_isName σ = 1 := by
  unfold f_X9_isName
  (repeat' split) <;> first | exact Or.inl rfl | exact Or.inr rfl
def u_X9_keepName_1 (x1 : Int32) (σ : zS) : zS := zuI σ 487 (x1).toNatClampNeg (σ.1 468 21)
def u_X9_keepName_2 (x1 : Int32) (σ : zS) : zS := zuI (u_X9_keepName_1 x1 σ) 488 (x1).toNatClampNeg (((u_X9_keepName_1 x1 σ).1 468 20) - ((u_X9_keepName_1 x1 σ).1 468 21))
def s_X9_keepName (x1 : Int32) (σ : zS) : zS := (u_X9_keepName_2 x1 σ)
def p_X9_keepName (x1 : Int32) (σ : zS) : Prop := vp_in x1 10
set_option maxRecDepth 100000 in
set_option maxHeartbeats 1000000 in
theorem c_X9_keepName {nx : Nat} (x1 : Int32) (σ : zS) (hp : p_X9_keepName x1 σ) : zCl 1 zall nx zall nx 176 [.inr (9, 57, 468), .inl x1] σ (fun v σ1 => v = none ∧ σ1 = s_X9_keepName x1 σ) := by
  refine zmeth (cd := kX9_keepName) [] 1000 (Nat.le_of_ble_eq_true rfl) rfl okX9_keepName (Nat.le_refl _) (Nat.le_of_ble_eq_true rfl) ?_
  refine And.intro hp ?_
  refine And.intro hp ?_
  exact And.intro rfl (And.intro rfl ⟨rfl, by rw [s_X9_keepName] <;> rfl⟩)
def u_X9_lay_1 (x1 : Int32) (x2 : Int32) (x3 : Int32) (σ : zS) : zS := zuI σ 484 ((800 * x1) + (2 * (σ.1 479 (x1).toNatClampNeg))).toNatClampNeg x2
def u_X9_lay_2 (x1 : Int32) (x2 : Int32) (x3 : Int32) (σ : zS) : zS := zuI (u_X9_lay_1 x1 x2 x3 σ) 484 (((800 * x1) + (2 * ((u_X9_lay_1 x1 x2 x3 σ).1 479 (x1).toNatClampNeg))) + 1).toNatClampNeg x3
def u_X9_lay_3 (x1 : Int32) (x2 : Int32) (x3 : Int32) (σ : zS) : zS := zuI (u_X9_lay_2 x1 x2 x3 σ) 479 (x1).toNatClampNeg (((u_X9_lay_2 x1 x2 x3 σ).1 479 (x1).toNatClampNeg) + 1)
def s_X9_lay (x1 : Int32) (x2 : Int32) (x3 : Int32) (σ : zS) : zS := (u_X9_lay_3 x1 x2 x3 σ)
def p_X9_lay (x1 : Int32) (x2 : Int32) (x3 : Int32) (σ : zS) : Prop := vp_in x1 2 ∧ (vp_in ((800 * x1) + (2 * (σ.1 479 (x1).toNatClampNeg))) 1600 ∧ vp_in (((800 * x1) + (2 * ((u_X9_lay_1 x1 x2 x3 σ).1 479 (x1).toNatClampNeg))) + 1) 1600)
set_option maxRecDepth 100000 in
set_option maxHeartbeats 1000000 in
theorem c_X9_lay {nx : Nat} (x1 : Int32) (x2 : Int32) (x3 : Int32) (σ : zS) (hp : p_X9_lay x1 x2 x3 σ) : zCl 1 zall nx zall nx 184 [.inr (9, 57, 468), .inl x1, .inl x2, .inl x3] σ (fun v σ1 => v = none ∧ σ1 = s_X9_lay x1 x2 x3 σ) := by
  refine zmeth (cd := kX9_lay) [] 1000 (Nat.le_of_ble_eq_true rfl) rfl okX9_lay (Nat.le_refl _) (Nat.le_of_ble_eq_true rfl) ?_
  refine And.intro hp.1 ?_
  refine And.intro hp.2.1 ?_
  refine And.intro hp.1 ?_
  refine And.intro hp.2.2 ?_
  refine And.intro hp.1 ?_
  refine And.intro hp.1 ?_
  exact And.intro rfl (And.intro rfl ⟨rfl, by rw [s_X9_lay] <;> rfl⟩)
def u_X9_push_1 (x1 : Int32) (x2 : Int32) (x3 : Int32) (σ : zS) : zS := zuI σ 489 (σ.1 468 37).toNatClampNeg x1
def u_X9_push_2 (x1 : Int32) (x2 : Int32) (x3 : Int32) (σ : zS) : zS := zuI (u_X9_push_1 x1 x2 x3 σ) 490 ((u_X9_push_1 x1 x2 x3 σ).1 468 37).toNatClampNeg x2
def u_X9_push_3 (x1 : Int32) (x2 : Int32) (x3 : Int32) (σ : zS) : zS := zuI (u_X9_push_2 x1 x2 x3 σ) 491 ((u_X9_push_2 x1 x2 x3 σ).1 468 37).toNatClampNeg x3
def u_X9_push_4 (x1 : Int32) (x2 : Int32) (x3 : Int32) (σ : zS) : zS := zuI (u_X9_push_3 x1 x2 x3 σ) 468 37 (((u_X9_push_3 x1 x2 x3 σ).1 468 37) + 1)
def s_X9_push (x1 : Int32) (x2 : Int32) (x3 : Int32) (σ : zS) : zS := (u_X9_push_4 x1 x2 x3 σ)
def p_X9_push (x1 : Int32) (x2 : Int32) (x3 : Int32) (σ : zS) : Prop := vp_in (σ.1 468 37) 200 ∧ (vp_in ((u_X9_push_1 x1 x2 x3 σ).1 468 37) 200 ∧ vp_in ((u_X9_push_2 x1 x2 x3 σ).1 468 37) 200)
set_option maxRecDepth 100000 in
set_option maxHeartbeats 1000000 in
theorem c_X9_push {nx : Nat} (x1 : Int32) (x2 : Int32) (x3 : Int32) (σ : zS) (hp : p_X9_push x1 x2 x3 σ) : zCl 1 zall nx zall nx 185 [.inr (9, 57, 468), .inl x1, .inl x2, .inl x3] σ (fun v σ1 => v = none ∧ σ1 = s_X9_push x1 x2 x3 σ) := by
  refine zmeth (cd := kX9_push) [] 1000 (Nat.le_of_ble_eq_true rfl) rfl okX9_push (Nat.le_refl _) (Nat.le_of_ble_eq_true rfl) ?_
  refine And.intro hp.1 ?_
  refine And.intro hp.2.1 ?_
  refine And.intro hp.2.2 ?_
  exact And.intro rfl (And.intro rfl ⟨rfl, by rw [s_X9_push] <;> rfl⟩)
def f_X9_top (σ : zS) : Int32 := if (σ.1 468 37) = 0 then (-1) else (σ.1 489 ((σ.1 468 37) - 1).toNatClampNeg)
def p_X9_top (σ : zS) : Prop := ¬ (σ.1 468 37) = 0 → vp_in ((σ.1 468 37) - 1) 200
set_option maxRecDepth 100000 in
set_option maxHeartbeats 1000000 in
theorem c_X9_top {nx : Nat} (σ : zS) (hp : p_X9_top σ) : zCl 1 zall nx zall nx 186 [.inr (9, 57, 468)] σ (fun v σ1 => v = some (.inl (f_X9_top σ)) ∧ σ1 = σ) := by
  refine zmeth (cd := kX9_top) [] 1000 (Nat.le_of_ble_eq_true rfl) rfl okX9_top (Nat.le_refl _) (Nat.le_of_ble_eq_true rfl) ?_
  refine And.intro (fun (h1 : ¬ (σ.1 468 37) = 0) => ?_) (fun (h1 : (σ.1 468 37) = 0) => ?_)
  · refine And.intro (hp h1) ?_
    exact And.intro rfl (And.intro rfl ⟨by rw [f_X9_top, if_neg h1] <;> rfl, rfl⟩)
  · exact And.intro rfl (And.intro rfl ⟨by rw [f_X9_top, if_pos h1] <;> rfl, rfl⟩)
def f_X9_bindsBy (x1 : Int32) : Int32 := if x1 = 2 then 1 else (if x1 = 3 then 1 else (if (f_X9_isIn x1 4 6) = 0 then 0 else 2))
set_option maxRecDepth 100000 in
set_option maxHeartbeats 1000000 in
theorem c_X9_bindsBy {nx : Nat} (x1 : Int32) (σ : zS) : zCl 2 zall nx zall nx 187 [.inl x1] σ (fun v σ1 => v = some (.inl (f_X9_bindsBy x1)) ∧ σ1 = σ) := by
  refine zmeth (cd := kX9_bindsBy) [] 1000 (Nat.le_of_ble_eq_true rfl) rfl okX9_bindsBy (Nat.le_refl _) (Nat.le_of_ble_eq_true rfl) ?_
  refine And.intro (fun (h1 : x1 = 2) => ?_) (fun (h1 : ¬ x1 = 2) => ?_)
  · exact And.intro rfl (And.intro rfl ⟨by rw [f_X9_bindsBy, if_pos h1] <;> rfl, rfl⟩)
  · refine And.intro (fun (h2 : ¬ x1 = 3) => ?_) (fun (h2 : x1 = 3) => ?_)
    · refine zCl.use (c_X9_isIn x1 4 6 σ) (Nat.le_of_ble_eq_true rfl) ?_
      rintro _ _ ⟨rfl, rfl⟩
      refine And.intro (fun (h3 : (f_X9_isIn x1 4 6) = 0) => ?_) (fun (h3 : ¬ (f_X9_isIn x1 4 6) = 0) => ?_)
      · exact And.intro rfl (And.intro rfl ⟨by rw [f_X9_bindsBy, if_neg h1, if_neg h2, if_pos h3] <;> rfl, rfl⟩)
      · exact And.intro rfl (And.intro rfl ⟨by rw [f_X9_bindsBy, if_neg h1, if_neg h2, if_neg h3] <;> rfl, rfl⟩)
    · exact And.intro rfl (And.intro rfl ⟨by rw [f_X9_bindsBy, if_neg h1, if_pos h2] <;> rfl, rfl⟩)
def f_X9_between (σ : zS) : Int32 := if (f_X9_isAt 43 σ) = 0 then (if (f_X9_isAt 45 σ) = 0 then (if (f_X9_isAt 42 σ) = 0 then (if (f_X9_isAt 47 σ) = 0 then (if (f_X9_isAt 37 σ) = 0 then (-1) else 6) else 5) else 4) else 3) else 2
def p_X9_between (σ : zS) : Prop := p_X9_isAt 43 σ ∧ ((f_X9_isAt 43 σ) = 0 → (p_X9_isAt 45 σ ∧ ((f_X9_isAt 45 σ) = 0 → (p_X9_isAt 42 σ ∧ ((f_X9_isAt 42 σ) = 0 → (p_X9_isAt 47 σ ∧ ((f_X9_isAt 47 σ) = 0 → p_X9_isAt 37 σ)))))))
set_option maxRecDepth 100000 in
set_option maxHeartbeats 1000000 in
theorem c_X9_between {nx : Nat} (σ : zS) (hp : p_X9_between σ) : zCl 3 zall nx zall nx 188 [.inr (9, 57, 468)] σ (fun v σ1 => v = some (.inl (f_X9_between σ)) ∧ σ1 = σ) := by
  refine zmeth (cd := kX9_between) [] 1000 (Nat.le_of_ble_eq_true rfl) rfl okX9_between (Nat.le_refl _) (Nat.le_of_ble_eq_true rfl) ?_
  refine zCl.use (c_X9_isAt 43 σ hp.1) (Nat.le_of_ble_eq_true rfl) ?_
  rintro _ _ ⟨rfl, rfl⟩
  refine And.intro (fun (h1 : (f_X9_isAt 43 σ) = 0) => ?_) (fun (h1 : ¬ (f_X9_isAt 43 σ) = 0) => ?_)
  · refine zCl.use (c_X9_isAt 45 σ (hp.2 h1).1) (Nat.le_of_ble_eq_true rfl) ?_
    rintro _ _ ⟨rfl, rfl⟩
    refine And.intro (fun (h2 : (f_X9_isAt 45 σ) = 0) => ?_) (fun (h2 : ¬ (f_X9_isAt 45 σ) = 0) => ?_)
    · refine zCl.use (c_X9_isAt 42 σ ((hp.2 h1).2 h2).1) (Nat.le_of_ble_eq_true rfl) ?_
      rintro _ _ ⟨rfl, rfl⟩
      refine And.intro (fun (h3 : (f_X9_isAt 42 σ) = 0) => ?_) (fun (h3 : ¬ (f_X9_isAt 42 σ) = 0) => ?_)
      · refine zCl.use (c_X9_isAt 47 σ (((hp.2 h1).2 h2).2 h3).1) (Nat.le_of_ble_eq_true rfl) ?_
        rintro _ _ ⟨rfl, rfl⟩
        refine And.intro (fun (h4 : (f_X9_isAt 47 σ) = 0) => ?_) (fun (h4 : ¬ (f_X9_isAt 47 σ) = 0) => ?_)
        · refine zCl.use (c_X9_isAt 37 σ ((((hp.2 h1).2 h2).2 h3).2 h4)) (Nat.le_of_ble_eq_true rfl) ?_
          rintro _ _ ⟨rfl, rfl⟩
          refine And.intro (fun (h5 : (f_X9_isAt 37 σ) = 0) => ?_) (fun (h5 : ¬ (f_X9_isAt 37 σ) = 0) => ?_)
          · exact And.intro rfl (And.intro rfl ⟨by rw [f_X9_between, if_pos h1, if_pos h2, if_pos h3, if_pos h4, if_pos h5] <;> rfl, rfl⟩)
          · exact And.intro rfl (And.intro rfl ⟨by rw [f_X9_between, if_pos h1, if_pos h2, if_pos h3, if_pos h4, if_neg h5] <;> rfl, rfl⟩)
        · exact And.intro rfl (And.intro rfl ⟨by rw [f_X9_between, if_pos h1, if_pos h2, if_pos h3, if_neg h4] <;> rfl, rfl⟩)
      · exact And.intro rfl (And.intro rfl ⟨by rw [f_X9_between, if_pos h1, if_pos h2, if_neg h3] <;> rfl, rfl⟩)
    · exact And.intro rfl (And.intro rfl ⟨by rw [f_X9_between, if_pos h1, if_neg h2] <;> rfl, rfl⟩)
  · exact And.intro rfl (And.intro rfl ⟨by rw [f_X9_between, if_neg h1] <;> rfl, rfl⟩)
def f_X9_isTooMany (x1 : Int32) (σ : zS) : Int32 := if (σ.1 468 39) = 0 then (if (f_X9_top σ) = 105 then (if (σ.1 481 ((6 * x1) + (σ.1 490 ((σ.1 468 37) - 1).toNatClampNeg)).toNatClampNeg) = 0 then 1 else 0) else 0) else 0
def p_X9_isTooMany (x1 : Int32) (σ : zS) : Prop := (σ.1 468 39) = 0 → (p_X9_top σ ∧ ((f_X9_top σ) = 105 → (vp_in ((σ.1 468 37) - 1) 200 ∧ vp_in ((6 * x1) + (σ.1 490 ((σ.1 468 37) - 1).toNatClampNeg)) 12)))
set_option maxRecDepth 100000 in
set_option maxHeartbeats 1000000 in
theorem c_X9_isTooMany {nx : Nat} (x1 : Int32) (σ : zS) (hp : p_X9_isTooMany x1 σ) : zCl 2 zall nx zall nx 190 [.inr (9, 57, 468), .inl x1] σ (fun v σ1 => v = some (.inl (f_X9_isTooMany x1 σ)) ∧ σ1 = σ) := by
  refine zmeth (cd := kX9_isTooMany) [] 1000 (Nat.le_of_ble_eq_true rfl) rfl okX9_isTooMany (Nat.le_refl _) (Nat.le_of_ble_eq_true rfl) ?_
  refine And.intro (fun (h1 : ¬ (σ.1 468 39) = 0) => ?_) (fun (h1 : (σ.1 468 39) = 0) => ?_)
  · exact And.intro rfl (And.intro rfl (And.intro (Or.inl rfl) ⟨by rw [f_X9_isTooMany, if_neg h1] <;> rfl, rfl⟩))
  · refine zCl.use (c_X9_top σ (hp h1).1) (Nat.le_of_ble_eq_true rfl) ?_
    rintro _ _ ⟨rfl, rfl⟩
    refine And.intro (fun (h2 : ¬ (f_X9_top σ) = 105) => ?_) (fun (h2 : (f_X9_top σ) = 105) => ?_)
    · exact And.intro rfl (And.intro rfl (And.intro (Or.inl rfl) ⟨by rw [f_X9_isTooMany, if_pos h1, if_neg h2] <;> rfl, rfl⟩))
    · refine And.intro ((hp h1).2 h2).1 ?_
      refine And.intro ((hp h1).2 h2).2 ?_
      refine And.intro (fun (h3 : ¬ (σ.1 481 ((6 * x1) + (σ.1 490 ((σ.1 468 37) - 1).toNatClampNeg)).toNatClampNeg) = 0) => ?_) (fun (h3 : (σ.1 481 ((6 * x1) + (σ.1 490 ((σ.1 468 37) - 1).toNatClampNeg)).toNatClampNeg) = 0) => ?_)
      · exact And.intro rfl (And.intro rfl (And.intro (Or.inl rfl) ⟨by rw [f_X9_isTooMany, if_pos h1, if_pos h2, if_neg h3] <;> rfl, rfl⟩))
      · exact And.intro rfl (And.intro rfl (And.intro (Or.inr rfl) ⟨by rw [f_X9_isTooMany, if_pos h1, if_pos h2, if_pos h3] <;> rfl, rfl⟩))
theorem b_X9_isTooMany {x1 : Int32} {σ : zS} : f_X9_isTooMany x1 σ = 0 ∨ f_X9_isTooMany x1 σ = 1 := by
  unfold f_X9_isTooMany
  (repeat' split) <;> first | exact Or.inl rfl | exact Or.inr rfl
def u_X9_layTop_1 (x1 : Int32) (σ : zS) : zS := zuI σ 468 37 ((σ.1 468 37) - 1)
def u_X9_layTop_2 (x1 : Int32) (σ : zS) : zS := s_X9_lay x1 ((u_X9_layTop_1 x1 σ).1 489 ((u_X9_layTop_1 x1 σ).1 468 37).toNatClampNeg) 0 (u_X9_layTop_1 x1 σ)
def s_X9_layTop (x1 : Int32) (σ : zS) : zS := (u_X9_layTop_2 x1 σ)
def p_X9_layTop (x1 : Int32) (σ : zS) : Prop := vp_in ((u_X9_layTop_1 x1 σ).1 468 37) 200 ∧ p_X9_lay x1 ((u_X9_layTop_1 x1 σ).1 489 ((u_X9_layTop_1 x1 σ).1 468 37).toNatClampNeg) 0 (u_X9_layTop_1 x1 σ)
set_option maxRecDepth 100000 in
set_option maxHeartbeats 1000000 in
theorem c_X9_layTop {nx : Nat} (x1 : Int32) (σ : zS) (hp : p_X9_layTop x1 σ) : zCl 2 zall nx zall nx 198 [.inr (9, 57, 468), .inl x1] σ (fun v σ1 => v = none ∧ σ1 = s_X9_layTop x1 σ) := by
  refine zmeth (cd := kX9_layTop) [] 1000 (Nat.le_of_ble_eq_true rfl) rfl okX9_layTop (Nat.le_refl _) (Nat.le_of_ble_eq_true rfl) ?_
  refine And.intro hp.1 ?_
  refine zCl.use (c_X9_lay x1 ((u_X9_layTop_1 x1 σ).1 489 ((u_X9_layTop_1 x1 σ).1 468 37).toNatClampNeg) 0 (u_X9_layTop_1 x1 σ) hp.2) (Nat.le_of_ble_eq_true rfl) ?_
  rintro _ _ ⟨rfl, rfl⟩
  exact And.intro rfl (And.intro rfl ⟨rfl, by rw [s_X9_layTop] <;> rfl⟩)
def f_X9_fault (x1 : Int32) (σ : zS) : Int32 := if x1 = 0 then (σ.1 468 27) else (if x1 = 1 then (σ.1 468 28) else (-1))
set_option maxRecDepth 100000 in
set_option maxHeartbeats 1000000 in
theorem c_X9_fault {nx : Nat} (x1 : Int32) (σ : zS) : zCl 1 zall nx zall nx 205 [.inr (9, 57, 468), .inl x1] σ (fun v σ1 => v = some (.inl (f_X9_fault x1 σ)) ∧ σ1 = σ) := by
  refine zmeth (cd := kX9_fault) [] 1000 (Nat.le_of_ble_eq_true rfl) rfl okX9_fault (Nat.le_refl _) (Nat.le_of_ble_eq_true rfl) ?_
  refine And.intro (fun (h1 : ¬ x1 = 0) => ?_) (fun (h1 : x1 = 0) => ?_)
  · refine And.intro (fun (h2 : ¬ x1 = 1) => ?_) (fun (h2 : x1 = 1) => ?_)
    · exact And.intro rfl (And.intro rfl ⟨by rw [f_X9_fault, if_neg h1, if_neg h2] <;> rfl, rfl⟩)
    · exact And.intro rfl (And.intro rfl ⟨by rw [f_X9_fault, if_neg h1, if_pos h2] <;> rfl, rfl⟩)
  · exact And.intro rfl (And.intro rfl ⟨by rw [f_X9_fault, if_pos h1] <;> rfl, rfl⟩)
def f_X9_many (σ : zS) : Int32 := σ.1 477 (σ.1 468 16).toNatClampNeg
def p_X9_many (σ : zS) : Prop := vp_in (σ.1 468 16) 2
set_option maxRecDepth 100000 in
set_option maxHeartbeats 1000000 in
theorem c_X9_many {nx : Nat} (σ : zS) (hp : p_X9_many σ) : zCl 1 zall nx zall nx 206 [.inr (9, 57, 468)] σ (fun v σ1 => v = some (.inl (f_X9_many σ)) ∧ σ1 = σ) := by
  refine zmeth (cd := kX9_many) [] 1000 (Nat.le_of_ble_eq_true rfl) rfl okX9_many (Nat.le_refl _) (Nat.le_of_ble_eq_true rfl) ?_
  refine And.intro hp ?_
  exact And.intro rfl (And.intro rfl ⟨by rw [f_X9_many] <;> rfl, rfl⟩)
def f_X9_windowsNow (σ : zS) : Int32 := σ.1 470 (σ.1 468 16).toNatClampNeg
def p_X9_windowsNow (σ : zS) : Prop := vp_in (σ.1 468 16) 2
set_option maxRecDepth 100000 in
set_option maxHeartbeats 1000000 in
theorem c_X9_windowsNow {nx : Nat} (σ : zS) (hp : p_X9_windowsNow σ) : zCl 1 zall nx zall nx 207 [.inr (9, 57, 468)] σ (fun v σ1 => v = some (.inl (f_X9_windowsNow σ)) ∧ σ1 = σ) := by
  refine zmeth (cd := kX9_windowsNow) [] 1000 (Nat.le_of_ble_eq_true rfl) rfl okX9_windowsNow (Nat.le_refl _) (Nat.le_of_ble_eq_true rfl) ?_
  refine And.intro hp ?_
  exact And.intro rfl (And.intro rfl ⟨by rw [f_X9_windowsNow] <;> rfl, rfl⟩)
def f_X9_isTask (x1 : Int32) (σ : zS) : Int32 := f_X9_isIn x1 0 ((f_X9_many σ) - 1)
def p_X9_isTask (x1 : Int32) (σ : zS) : Prop := p_X9_many σ
set_option maxRecDepth 100000 in
set_option maxHeartbeats 1000000 in
theorem c_X9_isTask {nx : Nat} (x1 : Int32) (σ : zS) (hp : p_X9_isTask x1 σ) : zCl 2 zall nx zall nx 208 [.inr (9, 57, 468), .inl x1] σ (fun v σ1 => v = some (.inl (f_X9_isTask x1 σ)) ∧ σ1 = σ) := by
  refine zmeth (cd := kX9_isTask) [] 1000 (Nat.le_of_ble_eq_true rfl) rfl okX9_isTask (Nat.le_refl _) (Nat.le_of_ble_eq_true rfl) ?_
  refine zCl.use (c_X9_many σ hp) (Nat.le_of_ble_eq_true rfl) ?_
  rintro _ _ ⟨rfl, rfl⟩
  refine zCl.use (c_X9_isIn x1 0 ((f_X9_many σ) - 1) σ) (Nat.le_of_ble_eq_true rfl) ?_
  rintro _ _ ⟨rfl, rfl⟩
  exact And.intro rfl (And.intro rfl (And.intro (b_X9_isIn) ⟨by rw [f_X9_isTask] <;> rfl, rfl⟩))
theorem b_X9_isTask {x1 : Int32} {σ : zS} : f_X9_isTask x1 σ = 0 ∨ f_X9_isTask x1 σ = 1 := by
  unfold f_X9_isTask
  (repeat' split) <;> first | exact Or.inl rfl | exact Or.inr rfl | exact b_X9_isIn
def f_X9_isWindow (x1 : Int32) (σ : zS) : Int32 := f_X9_isIn x1 0 ((f_X9_windowsNow σ) - 1)
def p_X9_isWindow (x1 : Int32) (σ : zS) : Prop := p_X9_windowsNow σ
set_option maxRecDepth 100000 in
set_option maxHeartbeats 1000000 in
theorem c_X9_isWindow {nx : Nat} (x1 : Int32) (σ : zS) (hp : p_X9_isWindow x1 σ) : zCl 2 zall nx zall nx 209 [.inr (9, 57, 468), .inl x1] σ (fun v σ1 => v = some (.inl (f_X9_isWindow x1 σ)) ∧ σ1 = σ) := by
  refine zmeth (cd := kX9_isWindow) [] 1000 (Nat.le_of_ble_eq_true rfl) rfl okX9_isWindow (Nat.le_refl _) (Nat.le_of_ble_eq_true rfl) ?_
  refine zCl.use (c_X9_windowsNow σ hp) (Nat.le_of_ble_eq_true rfl) ?_
  rintro _ _ ⟨rfl, rfl⟩
  refine zCl.use (c_X9_isIn x1 0 ((f_X9_windowsNow σ) - 1) σ) (Nat.le_of_ble_eq_true rfl) ?_
  rintro _ _ ⟨rfl, rfl⟩
  exact And.intro rfl (And.intro rfl (And.intro (b_X9_isIn) ⟨by rw [f_X9_isWindow] <;> rfl, rfl⟩))
theorem b_X9_isWindow {x1 : Int32} {σ : zS} : f_X9_isWindow x1 σ = 0 ∨ f_X9_isWindow x1 σ = 1 := by
  unfold f_X9_isWindow
  (repeat' split) <;> first | exact Or.inl rfl | exact Or.inr rfl | exact b_X9_isIn
def f_X9_isFunction (x1 : Int32) (σ : zS) : Int32 := f_X9_isIn x1 0 ((σ.1 476 (σ.1 468 16).toNatClampNeg) - 1)
def p_X9_isFunction (x1 : Int32) (σ : zS) : Prop := vp_in (σ.1 468 16) 2
set_option maxRecDepth 100000 in
set_option maxHeartbeats 1000000 in
theorem c_X9_isFunction {nx : Nat} (x1 : Int32) (σ : zS) (hp : p_X9_isFunction x1 σ) : zCl 2 zall nx zall nx 210 [.inr (9, 57, 468), .inl x1] σ (fun v σ1 => v = some (.inl (f_X9_isFunction x1 σ)) ∧ σ1 = σ) := by
  refine zmeth (cd := kX9_isFunction) [] 1000 (Nat.le_of_ble_eq_true rfl) rfl okX9_isFunction (Nat.le_refl _) (Nat.le_of_ble_eq_true rfl) ?_
  refine And.intro hp ?_
  refine zCl.use (c_X9_isIn x1 0 ((σ.1 476 (σ.1 468 16).toNatClampNeg) - 1) σ) (Nat.le_of_ble_eq_true rfl) ?_
  rintro _ _ ⟨rfl, rfl⟩
  exact And.intro rfl (And.intro rfl (And.intro (b_X9_isIn) ⟨by rw [f_X9_isFunction] <;> rfl, rfl⟩))
theorem b_X9_isFunction {x1 : Int32} {σ : zS} : f_X9_isFunction x1 σ = 0 ∨ f_X9_isFunction x1 σ = 1 := by
  unfold f_X9_isFunction
  (repeat' split) <;> first | exact Or.inl rfl | exact Or.inr rfl | exact b_X9_isIn
def f_X9_atTask (x1 : Int32) (x2 : Int32) : Int32 := (136 + (20 * x1)) + x2
set_option maxRecDepth 100000 in
set_option maxHeartbeats 1000000 in
theorem c_X9_atTask {nx : Nat} (x1 : Int32) (x2 : Int32) (σ : zS) : zCl 1 zall nx zall nx 211 [.inl x1, .inl x2] σ (fun v σ1 => v = some (.inl (f_X9_atTask x1 x2)) ∧ σ1 = σ) := by
  refine zmeth (cd := kX9_atTask) [] 1000 (Nat.le_of_ble_eq_true rfl) rfl okX9_atTask (Nat.le_refl _) (Nat.le_of_ble_eq_true rfl) ?_
  exact And.intro rfl (And.intro rfl ⟨by rw [f_X9_atTask] <;> rfl, rfl⟩)
def f_X9_state (x1 : Int32) (σ : zS) : Int32 := σ.1 469 (f_X9_atTask x1 0).toNatClampNeg
def p_X9_state (x1 : Int32) (σ : zS) : Prop := vp_in (f_X9_atTask x1 0) 14241
set_option maxRecDepth 100000 in
set_option maxHeartbeats 1000000 in
theorem c_X9_state {nx : Nat} (x1 : Int32) (σ : zS) (hp : p_X9_state x1 σ) : zCl 2 zall nx zall nx 212 [.inr (9, 57, 468), .inl x1] σ (fun v σ1 => v = some (.inl (f_X9_state x1 σ)) ∧ σ1 = σ) := by
  refine zmeth (cd := kX9_state) [] 1000 (Nat.le_of_ble_eq_true rfl) rfl okX9_state (Nat.le_refl _) (Nat.le_of_ble_eq_true rfl) ?_
  refine zCl.use (c_X9_atTask x1 0 σ) (Nat.le_of_ble_eq_true rfl) ?_
  rintro _ _ ⟨rfl, rfl⟩
  refine And.intro hp ?_
  exact And.intro rfl (And.intro rfl ⟨by rw [f_X9_state] <;> rfl, rfl⟩)
def f_X9_frames (x1 : Int32) (σ : zS) : Int32 := σ.1 469 (f_X9_atTask x1 1).toNatClampNeg
def p_X9_frames (x1 : Int32) (σ : zS) : Prop := vp_in (f_X9_atTask x1 1) 14241
set_option maxRecDepth 100000 in
set_option maxHeartbeats 1000000 in
theorem c_X9_frames {nx : Nat} (x1 : Int32) (σ : zS) (hp : p_X9_frames x1 σ) : zCl 2 zall nx zall nx 213 [.inr (9, 57, 468), .inl x1] σ (fun v σ1 => v = some (.inl (f_X9_frames x1 σ)) ∧ σ1 = σ) := by
  refine zmeth (cd := kX9_frames) [] 1000 (Nat.le_of_ble_eq_true rfl) rfl okX9_frames (Nat.le_refl _) (Nat.le_of_ble_eq_true rfl) ?_
  refine zCl.use (c_X9_atTask x1 1 σ) (Nat.le_of_ble_eq_true rfl) ?_
  rintro _ _ ⟨rfl, rfl⟩
  refine And.intro hp ?_
  exact And.intro rfl (And.intro rfl ⟨by rw [f_X9_frames] <;> rfl, rfl⟩)
def f_X9_resident (x1 : Int32) (σ : zS) : Int32 := σ.1 469 (f_X9_atTask x1 2).toNatClampNeg
def p_X9_resident (x1 : Int32) (σ : zS) : Prop := vp_in (f_X9_atTask x1 2) 14241
set_option maxRecDepth 100000 in
set_option maxHeartbeats 1000000 in
theorem c_X9_resident {nx : Nat} (x1 : Int32) (σ : zS) (hp : p_X9_resident x1 σ) : zCl 2 zall nx zall nx 214 [.inr (9, 57, 468), .inl x1] σ (fun v σ1 => v = some (.inl (f_X9_resident x1 σ)) ∧ σ1 = σ) := by
  refine zmeth (cd := kX9_resident) [] 1000 (Nat.le_of_ble_eq_true rfl) rfl okX9_resident (Nat.le_refl _) (Nat.le_of_ble_eq_true rfl) ?_
  refine zCl.use (c_X9_atTask x1 2 σ) (Nat.le_of_ble_eq_true rfl) ?_
  rintro _ _ ⟨rfl, rfl⟩
  refine And.intro hp ?_
  exact And.intro rfl (And.intro rfl ⟨by rw [f_X9_resident] <;> rfl, rfl⟩)
def f_X9_atFrame (x1 : Int32) (x2 : Int32) (x3 : Int32) : Int32 := (((236 + (2801 * x1)) + 1) + (6 * (x2 - 1))) + x3
set_option maxRecDepth 100000 in
set_option maxHeartbeats 1000000 in
theorem c_X9_atFrame {nx : Nat} (x1 : Int32) (x2 : Int32) (x3 : Int32) (σ : zS) : zCl 1 zall nx zall nx 215 [.inl x1, .inl x2, .inl x3] σ (fun v σ1 => v = some (.inl (f_X9_atFrame x1 x2 x3)) ∧ σ1 = σ) := by
  refine zmeth (cd := kX9_atFrame) [] 1000 (Nat.le_of_ble_eq_true rfl) rfl okX9_atFrame (Nat.le_refl _) (Nat.le_of_ble_eq_true rfl) ?_
  exact And.intro rfl (And.intro rfl ⟨by rw [f_X9_atFrame] <;> rfl, rfl⟩)
def f_X9_atStack (x1 : Int32) (x2 : Int32) : Int32 := ((236 + (2801 * x1)) + 361) + x2
set_option maxRecDepth 100000 in
set_option maxHeartbeats 1000000 in
theorem c_X9_atStack {nx : Nat} (x1 : Int32) (x2 : Int32) (σ : zS) : zCl 1 zall nx zall nx 216 [.inl x1, .inl x2] σ (fun v σ1 => v = some (.inl (f_X9_atStack x1 x2)) ∧ σ1 = σ) := by
  refine zmeth (cd := kX9_atStack) [] 1000 (Nat.le_of_ble_eq_true rfl) rfl okX9_atStack (Nat.le_refl _) (Nat.le_of_ble_eq_true rfl) ?_
  exact And.intro rfl (And.intro rfl ⟨by rw [f_X9_atStack] <;> rfl, rfl⟩)
def f_X9_atLies (x1 : Int32) : Int32 := (236 + (2801 * x1)) + 0
set_option maxRecDepth 100000 in
set_option maxHeartbeats 1000000 in
theorem c_X9_atLies {nx : Nat} (x1 : Int32) (σ : zS) : zCl 1 zall nx zall nx 217 [.inl x1] σ (fun v σ1 => v = some (.inl (f_X9_atLies x1)) ∧ σ1 = σ) := by
  refine zmeth (cd := kX9_atLies) [] 1000 (Nat.le_of_ble_eq_true rfl) rfl okX9_atLies (Nat.le_refl _) (Nat.le_of_ble_eq_true rfl) ?_
  exact And.intro rfl (And.intro rfl ⟨by rw [f_X9_atLies] <;> rfl, rfl⟩)
def u_X9_put_1 (x1 : Int32) (x2 : Int32) (σ : zS) : zS := zuI σ 469 (f_X9_atStack x1 (σ.1 469 (f_X9_atLies x1).toNatClampNeg)).toNatClampNeg x2
def u_X9_put_2 (x1 : Int32) (x2 : Int32) (σ : zS) : zS := zuI (u_X9_put_1 x1 x2 σ) 469 (f_X9_atLies x1).toNatClampNeg (((u_X9_put_1 x1 x2 σ).1 469 (f_X9_atLies x1).toNatClampNeg) + 1)
def s_X9_put (x1 : Int32) (x2 : Int32) (σ : zS) : zS := (u_X9_put_2 x1 x2 σ)
def p_X9_put (x1 : Int32) (x2 : Int32) (σ : zS) : Prop := vp_in (f_X9_atLies x1) 14241 ∧ vp_in (f_X9_atStack x1 (σ.1 469 (f_X9_atLies x1).toNatClampNeg)) 14241
set_option maxRecDepth 100000 in
set_option maxHeartbeats 1000000 in
theorem c_X9_put {nx : Nat} (x1 : Int32) (x2 : Int32) (σ : zS) (hp : p_X9_put x1 x2 σ) : zCl 2 zall nx zall nx 221 [.inr (9, 57, 468), .inl x1, .inl x2] σ (fun v σ1 => v = none ∧ σ1 = s_X9_put x1 x2 σ) := by
  refine zmeth (cd := kX9_put) [] 1000 (Nat.le_of_ble_eq_true rfl) rfl okX9_put (Nat.le_refl _) (Nat.le_of_ble_eq_true rfl) ?_
  refine zCl.use (c_X9_atLies x1 σ) (Nat.le_of_ble_eq_true rfl) ?_
  rintro _ _ ⟨rfl, rfl⟩
  refine And.intro hp.1 ?_
  refine zCl.use (c_X9_atStack x1 (σ.1 469 (f_X9_atLies x1).toNatClampNeg) σ) (Nat.le_of_ble_eq_true rfl) ?_
  rintro _ _ ⟨rfl, rfl⟩
  refine And.intro hp.2 ?_
  refine zCl.use (c_X9_atLies x1 (u_X9_put_1 x1 x2 σ)) (Nat.le_of_ble_eq_true rfl) ?_
  rintro _ _ ⟨rfl, rfl⟩
  refine And.intro hp.1 ?_
  refine And.intro hp.1 ?_
  exact And.intro rfl (And.intro rfl ⟨rfl, by rw [s_X9_put] <;> rfl⟩)
def u_X9_take_1 (x1 : Int32) (σ : zS) : zS := zuI σ 469 (f_X9_atLies x1).toNatClampNeg ((σ.1 469 (f_X9_atLies x1).toNatClampNeg) - 1)
def f_X9_take (x1 : Int32) (σ : zS) : Int32 := (u_X9_take_1 x1 σ).1 469 (f_X9_atStack x1 ((u_X9_take_1 x1 σ).1 469 (f_X9_atLies x1).toNatClampNeg)).toNatClampNeg
def s_X9_take (x1 : Int32) (σ : zS) : zS := (u_X9_take_1 x1 σ)
def p_X9_take (x1 : Int32) (σ : zS) : Prop := vp_in (f_X9_atLies x1) 14241 ∧ vp_in (f_X9_atStack x1 ((u_X9_take_1 x1 σ).1 469 (f_X9_atLies x1).toNatClampNeg)) 14241
set_option maxRecDepth 100000 in
set_option maxHeartbeats 1000000 in
theorem c_X9_take {nx : Nat} (x1 : Int32) (σ : zS) (hp : p_X9_take x1 σ) : zCl 2 zall nx zall nx 222 [.inr (9, 57, 468), .inl x1] σ (fun v σ1 => v = some (.inl (f_X9_take x1 σ)) ∧ σ1 = s_X9_take x1 σ) := by
  refine zmeth (cd := kX9_take) [] 1000 (Nat.le_of_ble_eq_true rfl) rfl okX9_take (Nat.le_refl _) (Nat.le_of_ble_eq_true rfl) ?_
  refine zCl.use (c_X9_atLies x1 σ) (Nat.le_of_ble_eq_true rfl) ?_
  rintro _ _ ⟨rfl, rfl⟩
  refine And.intro hp.1 ?_
  refine And.intro hp.1 ?_
  refine zCl.use (c_X9_atLies x1 (u_X9_take_1 x1 σ)) (Nat.le_of_ble_eq_true rfl) ?_
  rintro _ _ ⟨rfl, rfl⟩
  refine And.intro hp.1 ?_
  refine zCl.use (c_X9_atStack x1 ((u_X9_take_1 x1 σ).1 469 (f_X9_atLies x1).toNatClampNeg) (u_X9_take_1 x1 σ)) (Nat.le_of_ble_eq_true rfl) ?_
  rintro _ _ ⟨rfl, rfl⟩
  refine And.intro hp.2 ?_
  exact And.intro rfl (And.intro rfl ⟨by rw [f_X9_take] <;> rfl, by rw [s_X9_take] <;> rfl⟩)
def f_X9_made (x1 : Int32) (x2 : Int32) (x3 : Int32) : Int32 := if x1 = 2 then (x2 + x3) else (if x1 = 3 then (x2 - x3) else (if x1 = 4 then (x2 * x3) else (if x1 = 5 then (if x3 = 0 then 0 else (x2 / x3)) else (if x3 = 0 then 0 else (x2 - x2 / x3 * x3)))))
def p_X9_made (x1 : Int32) (x2 : Int32) (x3 : Int32) (σ : zS) : Prop := ¬ x1 = 2 → (¬ x1 = 3 → (¬ x1 = 4 → ((x1 = 5 → (¬ x3 = 0 → ¬ x3 = 0)) ∧ (¬ x1 = 5 → (¬ x3 = 0 → ¬ x3 = 0)))))
set_option maxRecDepth 100000 in
set_option maxHeartbeats 1000000 in
theorem c_X9_made {nx : Nat} (x1 : Int32) (x2 : Int32) (x3 : Int32) (σ : zS) (hp : p_X9_made x1 x2 x3 σ) : zCl 1 zall nx zall nx 223 [.inl x1, .inl x2, .inl x3] σ (fun v σ1 => v = some (.inl (f_X9_made x1 x2 x3)) ∧ σ1 = σ) := by
  refine zmeth (cd := kX9_made) [] 1000 (Nat.le_of_ble_eq_true rfl) rfl okX9_made (Nat.le_refl _) (Nat.le_of_ble_eq_true rfl) ?_
  refine And.intro (fun (h1 : x1 = 2) => ?_) (fun (h1 : ¬ x1 = 2) => ?_)
  · exact And.intro rfl (And.intro rfl ⟨by rw [f_X9_made, if_pos h1] <;> rfl, rfl⟩)
  · refine And.intro (fun (h2 : x1 = 3) => ?_) (fun (h2 : ¬ x1 = 3) => ?_)
    · exact And.intro rfl (And.intro rfl ⟨by rw [f_X9_made, if_neg h1, if_pos h2] <;> rfl, rfl⟩)
    · refine And.intro (fun (h3 : x1 = 4) => ?_) (fun (h3 : ¬ x1 = 4) => ?_)
      · exact And.intro rfl (And.intro rfl ⟨by rw [f_X9_made, if_neg h1, if_neg h2, if_pos h3] <;> rfl, rfl⟩)
      · refine And.intro (fun (h4 : x1 = 5) => ?_) (fun (h4 : ¬ x1 = 5) => ?_)
        · refine And.intro (fun (h5 : ¬ x3 = 0) => ?_) (fun (h5 : x3 = 0) => ?_)
          · refine And.intro (((((hp h1) h2) h3).1 h4) h5) ?_
            exact And.intro rfl (And.intro rfl ⟨by rw [f_X9_made, if_neg h1, if_neg h2, if_neg h3, if_pos h4, if_neg h5] <;> rfl, rfl⟩)
          · exact And.intro rfl (And.intro rfl ⟨by rw [f_X9_made, if_neg h1, if_neg h2, if_neg h3, if_pos h4, if_pos h5] <;> rfl, rfl⟩)
        · refine And.intro (fun (h6 : ¬ x3 = 0) => ?_) (fun (h6 : x3 = 0) => ?_)
          · refine And.intro (((((hp h1) h2) h3).2 h4) h6) ?_
            exact And.intro rfl (And.intro rfl ⟨by rw [f_X9_made, if_neg h1, if_neg h2, if_neg h3, if_neg h4, if_neg h6] <;> rfl, rfl⟩)
          · exact And.intro rfl (And.intro rfl ⟨by rw [f_X9_made, if_neg h1, if_neg h2, if_neg h3, if_neg h4, if_pos h6] <;> rfl, rfl⟩)
def f_X9_holds (x1 : Int32) (x2 : Int32) (x3 : Int32) : Int32 := if x1 = 9 then (if x3 ≤ x2 then 0 else 1) else (if x1 = 10 then (if x2 ≤ x3 then 0 else 1) else (if x2 = x3 then 1 else 0))
set_option maxRecDepth 100000 in
set_option maxHeartbeats 1000000 in
theorem c_X9_holds {nx : Nat} (x1 : Int32) (x2 : Int32) (x3 : Int32) (σ : zS) : zCl 1 zall nx zall nx 224 [.inl x1, .inl x2, .inl x3] σ (fun v σ1 => v = some (.inl (f_X9_holds x1 x2 x3)) ∧ σ1 = σ) := by
  refine zmeth (cd := kX9_holds) [] 1000 (Nat.le_of_ble_eq_true rfl) rfl okX9_holds (Nat.le_refl _) (Nat.le_of_ble_eq_true rfl) ?_
  refine And.intro (fun (h1 : ¬ x1 = 9) => ?_) (fun (h1 : x1 = 9) => ?_)
  · refine And.intro (fun (h2 : ¬ x1 = 10) => ?_) (fun (h2 : x1 = 10) => ?_)
    · refine And.intro (fun (h3 : ¬ x2 = x3) => ?_) (fun (h3 : x2 = x3) => ?_)
      · exact And.intro rfl (And.intro rfl (And.intro (Or.inl rfl) ⟨by rw [f_X9_holds, if_neg h1, if_neg h2, if_neg h3] <;> rfl, rfl⟩))
      · exact And.intro rfl (And.intro rfl (And.intro (Or.inr rfl) ⟨by rw [f_X9_holds, if_neg h1, if_neg h2, if_pos h3] <;> rfl, rfl⟩))
    · refine And.intro (fun (h4 : x2 ≤ x3) => ?_) (fun (h4 : ¬ x2 ≤ x3) => ?_)
      · exact And.intro rfl (And.intro rfl (And.intro (Or.inl rfl) ⟨by rw [f_X9_holds, if_neg h1, if_pos h2, if_pos h4] <;> rfl, rfl⟩))
      · exact And.intro rfl (And.intro rfl (And.intro (Or.inr rfl) ⟨by rw [f_X9_holds, if_neg h1, if_pos h2, if_neg h4] <;> rfl, rfl⟩))
  · refine And.intro (fun (h5 : x3 ≤ x2) => ?_) (fun (h5 : ¬ x3 ≤ x2) => ?_)
    · exact And.intro rfl (And.intro rfl (And.intro (Or.inl rfl) ⟨by rw [f_X9_holds, if_pos h1, if_pos h5] <;> rfl, rfl⟩))
    · exact And.intro rfl (And.intro rfl (And.intro (Or.inr rfl) ⟨by rw [f_X9_holds, if_pos h1, if_neg h5] <;> rfl, rfl⟩))
theorem b_X9_holds {x1 : Int32} {x2 : Int32} {x3 : Int32} : f_X9_holds x1 x2 x3 = 0 ∨ f_X9_holds x1 x2 x3 = 1 := by
  unfold f_X9_holds
  (repeat' split) <;> first | exact Or.inl rfl | exact Or.inr rfl
def u_X9_doStep_1 (x1 : Int32) (x2 : Int32) (x3 : Int32) (x4 : Int32) (σ : zS) : zS := s_X9_take x1 σ
def u_X9_doStep_2 (x1 : Int32) (x2 : Int32) (x3 : Int32) (x4 : Int32) (σ : zS) : zS := s_X9_take x1 (u_X9_doStep_1 x1 x2 x3 x4 σ)
def u_X9_doStep_3 (x1 : Int32) (x2 : Int32) (x3 : Int32) (x4 : Int32) (σ : zS) : zS := zuI (u_X9_doStep_2 x1 x2 x3 x4 σ) 469 (f_X9_atFrame x1 x2 1).toNatClampNeg x4
def u_X9_doStep_4 (x1 : Int32) (x2 : Int32) (x3 : Int32) (x4 : Int32) (σ : zS) : zS := s_X9_put x1 (f_X9_made x3 (f_X9_take x1 (u_X9_doStep_1 x1 x2 x3 x4 σ)) (f_X9_take x1 σ)) (u_X9_doStep_2 x1 x2 x3 x4 σ)
def u_X9_doStep_5 (x1 : Int32) (x2 : Int32) (x3 : Int32) (x4 : Int32) (σ : zS) : zS := s_X9_take x1 σ
def u_X9_doStep_6 (x1 : Int32) (x2 : Int32) (x3 : Int32) (x4 : Int32) (σ : zS) : zS := s_X9_put x1 (-(f_X9_take x1 σ)) (u_X9_doStep_5 x1 x2 x3 x4 σ)
def u_X9_doStep_7 (x1 : Int32) (x2 : Int32) (x3 : Int32) (x4 : Int32) (σ : zS) : zS := zuI σ 469 (f_X9_atFrame x1 x2 1).toNatClampNeg x4
def u_X9_doStep_8 (x1 : Int32) (x2 : Int32) (x3 : Int32) (x4 : Int32) (σ : zS) : zS := s_X9_put x1 (σ.1 469 (f_X9_atFrame x1 x2 (2 + x4)).toNatClampNeg) σ
def u_X9_doStep_9 (x1 : Int32) (x2 : Int32) (x3 : Int32) (x4 : Int32) (σ : zS) : zS := s_X9_put x1 x4 σ
def s_X9_doStep (x1 : Int32) (x2 : Int32) (x3 : Int32) (x4 : Int32) (σ : zS) : zS := if x3 = 0 then (u_X9_doStep_9 x1 x2 x3 x4 σ) else (if x3 = 1 then (u_X9_doStep_8 x1 x2 x3 x4 σ) else (if x3 = 12 then (u_X9_doStep_7 x1 x2 x3 x4 σ) else (if x3 = 7 then (u_X9_doStep_6 x1 x2 x3 x4 σ) else (if 6 < x3 then (if (f_X9_holds x3 (f_X9_take x1 (u_X9_doStep_1 x1 x2 x3 x4 σ)) (f_X9_take x1 σ)) = 0 then (u_X9_doStep_3 x1 x2 x3 x4 σ) else (u_X9_doStep_2 x1 x2 x3 x4 σ)) else (u_X9_doStep_4 x1 x2 x3 x4 σ)))))
def p_X9_doStep (x1 : Int32) (x2 : Int32) (x3 : Int32) (x4 : Int32) (σ : zS) : Prop := (¬ x3 = 0 → ((¬ x3 = 1 → ((¬ x3 = 12 → ((¬ x3 = 7 → (p_X9_take x1 σ ∧ (p_X9_take x1 (u_X9_doStep_1 x1 x2 x3 x4 σ) ∧ ((6 < x3 → ((f_X9_holds x3 (f_X9_take x1 (u_X9_doStep_1 x1 x2 x3 x4 σ)) (f_X9_take x1 σ)) = 0 → vp_in (f_X9_atFrame x1 x2 1) 14241)) ∧ (¬ 6 < x3 → (p_X9_made x3 (f_X9_take x1 (u_X9_doStep_1 x1 x2 x3 x4 σ)) (f_X9_take x1 σ) (u_X9_doStep_2 x1 x2 x3 x4 σ) ∧ p_X9_put x1 (f_X9_made x3 (f_X9_take x1 (u_X9_doStep_1 x1 x2 x3 x4 σ)) (f_X9_take x1 σ)) (u_X9_doStep_2 x1 x2 x3 x4 σ))))))) ∧ (x3 = 7 → (p_X9_take x1 σ ∧ p_X9_put x1 (-(f_X9_take x1 σ)) (u_X9_doStep_5 x1 x2 x3 x4 σ))))) ∧ (x3 = 12 → vp_in (f_X9_atFrame x1 x2 1) 14241))) ∧ (x3 = 1 → (vp_in (f_X9_atFrame x1 x2 (2 + x4)) 14241 ∧ p_X9_put x1 (σ.1 469 (f_X9_atFrame x1 x2 (2 + x4)).toNatClampNeg) σ)))) ∧ (x3 = 0 → p_X9_put x1 x4 σ)
set_option maxRecDepth 100000 in
set_option maxHeartbeats 1000000 in
theorem c_X9_doStep {nx : Nat} (x1 : Int32) (x2 : Int32) (x3 : Int32) (x4 : Int32) (σ : zS) (hp : p_X9_doStep x1 x2 x3 x4 σ) : zCl 3 zall nx zall nx 227 [.inr (9, 57, 468), .inl x1, .inl x2, .inl x3, .inl x4] σ (fun v σ1 => v = none ∧ σ1 = s_X9_doStep x1 x2 x3 x4 σ) := by
  refine zmeth (cd := kX9_doStep) [] 1000 (Nat.le_of_ble_eq_true rfl) rfl okX9_doStep (Nat.le_refl _) (Nat.le_of_ble_eq_true rfl) ?_
  refine And.intro (fun (h1 : ¬ x3 = 0) => ?_) (fun (h1 : x3 = 0) => ?_)
  · refine And.intro (fun (h2 : ¬ x3 = 1) => ?_) (fun (h2 : x3 = 1) => ?_)
    · refine And.intro (fun (h3 : ¬ x3 = 12) => ?_) (fun (h3 : x3 = 12) => ?_)
      · refine And.intro (fun (h4 : ¬ x3 = 7) => ?_) (fun (h4 : x3 = 7) => ?_)
        · refine zCl.use (c_X9_take x1 σ ((((hp.1 h1).1 h2).1 h3).1 h4).1) (Nat.le_of_ble_eq_true rfl) ?_
          rintro _ _ ⟨rfl, rfl⟩
          refine zCl.use (c_X9_take x1 (u_X9_doStep_1 x1 x2 x3 x4 σ) ((((hp.1 h1).1 h2).1 h3).1 h4).2.1) (Nat.le_of_ble_eq_true rfl) ?_
          rintro _ _ ⟨rfl, rfl⟩
          refine And.intro (fun (h5 : 6 < x3) => ?_) (fun (h5 : ¬ 6 < x3) => ?_)
          · refine zCl.use (c_X9_holds x3 (f_X9_take x1 (u_X9_doStep_1 x1 x2 x3 x4 σ)) (f_X9_take x1 σ) (u_X9_doStep_2 x1 x2 x3 x4 σ)) (Nat.le_of_ble_eq_true rfl) ?_
            rintro _ _ ⟨rfl, rfl⟩
            refine And.intro (fun (h6 : ¬ (f_X9_holds x3 (f_X9_take x1 (u_X9_doStep_1 x1 x2 x3 x4 σ)) (f_X9_take x1 σ)) = 0) => ?_) (fun (h6 : (f_X9_holds x3 (f_X9_take x1 (u_X9_doStep_1 x1 x2 x3 x4 σ)) (f_X9_take x1 σ)) = 0) => ?_)
            · exact And.intro rfl (And.intro rfl ⟨rfl, by rw [s_X9_doStep, if_neg h1, if_neg h2, if_neg h3, if_neg h4, if_pos h5, if_neg h6] <;> rfl⟩)
            · refine zCl.use (c_X9_atFrame x1 x2 1 (u_X9_doStep_2 x1 x2 x3 x4 σ)) (Nat.le_of_ble_eq_true rfl) ?_
              rintro _ _ ⟨rfl, rfl⟩
              refine And.intro ((((((hp.1 h1).1 h2).1 h3).1 h4).2.2.1 h5) h6) ?_
              exact And.intro rfl (And.intro rfl ⟨rfl, by rw [s_X9_doStep, if_neg h1, if_neg h2, if_neg h3, if_neg h4, if_pos h5, if_pos h6] <;> rfl⟩)
          · refine zCl.use (c_X9_made x3 (f_X9_take x1 (u_X9_doStep_1 x1 x2 x3 x4 σ)) (f_X9_take x1 σ) (u_X9_doStep_2 x1 x2 x3 x4 σ) (((((hp.1 h1).1 h2).1 h3).1 h4).2.2.2 h5).1) (Nat.le_of_ble_eq_true rfl) ?_
            rintro _ _ ⟨rfl, rfl⟩
            refine zCl.use (c_X9_put x1 (f_X9_made x3 (f_X9_take x1 (u_X9_doStep_1 x1 x2 x3 x4 σ)) (f_X9_take x1 σ)) (u_X9_doStep_2 x1 x2 x3 x4 σ) (((((hp.1 h1).1 h2).1 h3).1 h4).2.2.2 h5).2) (Nat.le_of_ble_eq_true rfl) ?_
            rintro _ _ ⟨rfl, rfl⟩
            exact And.intro rfl (And.intro rfl ⟨rfl, by rw [s_X9_doStep, if_neg h1, if_neg h2, if_neg h3, if_neg h4, if_neg h5] <;> rfl⟩)
        · refine zCl.use (c_X9_take x1 σ ((((hp.1 h1).1 h2).1 h3).2 h4).1) (Nat.le_of_ble_eq_true rfl) ?_
          rintro _ _ ⟨rfl, rfl⟩
          refine zCl.use (c_X9_put x1 (-(f_X9_take x1 σ)) (u_X9_doStep_5 x1 x2 x3 x4 σ) ((((hp.1 h1).1 h2).1 h3).2 h4).2) (Nat.le_of_ble_eq_true rfl) ?_
          rintro _ _ ⟨rfl, rfl⟩
          exact And.intro rfl (And.intro rfl ⟨rfl, by rw [s_X9_doStep, if_neg h1, if_neg h2, if_neg h3, if_pos h4] <;> rfl⟩)
      · refine zCl.use (c_X9_atFrame x1 x2 1 σ) (Nat.le_of_ble_eq_true rfl) ?_
        rintro _ _ ⟨rfl, rfl⟩
        refine And.intro (((hp.1 h1).1 h2).2 h3) ?_
        exact And.intro rfl (And.intro rfl ⟨rfl, by rw [s_X9_doStep, if_neg h1, if_neg h2, if_pos h3] <;> rfl⟩)
    · refine zCl.use (c_X9_atFrame x1 x2 (2 + x4) σ) (Nat.le_of_ble_eq_true rfl) ?_
      rintro _ _ ⟨rfl, rfl⟩
      refine And.intro ((hp.1 h1).2 h2).1 ?_
      refine zCl.use (c_X9_put x1 (σ.1 469 (f_X9_atFrame x1 x2 (2 + x4)).toNatClampNeg) σ ((hp.1 h1).2 h2).2) (Nat.le_of_ble_eq_true rfl) ?_
      rintro _ _ ⟨rfl, rfl⟩
      exact And.intro rfl (And.intro rfl ⟨rfl, by rw [s_X9_doStep, if_neg h1, if_pos h2] <;> rfl⟩)
  · refine zCl.use (c_X9_put x1 x4 σ (hp.2 h1)) (Nat.le_of_ble_eq_true rfl) ?_
    rintro _ _ ⟨rfl, rfl⟩
    exact And.intro rfl (And.intro rfl ⟨rfl, by rw [s_X9_doStep, if_pos h1] <;> rfl⟩)
def u_X9_give_1 (x1 : Int32) (x2 : Int32) (x3 : Int32) (x4 : Int32) (σ : zS) : zS := zuI σ 492 0 x1
def u_X9_give_2 (x1 : Int32) (x2 : Int32) (x3 : Int32) (x4 : Int32) (σ : zS) : zS := zuI (u_X9_give_1 x1 x2 x3 x4 σ) 492 1 x2
def u_X9_give_3 (x1 : Int32) (x2 : Int32) (x3 : Int32) (x4 : Int32) (σ : zS) : zS := zuI (u_X9_give_2 x1 x2 x3 x4 σ) 492 2 x3
def u_X9_give_4 (x1 : Int32) (x2 : Int32) (x3 : Int32) (x4 : Int32) (σ : zS) : zS := zuI (u_X9_give_3 x1 x2 x3 x4 σ) 492 3 x4
def s_X9_give (x1 : Int32) (x2 : Int32) (x3 : Int32) (x4 : Int32) (σ : zS) : zS := (u_X9_give_4 x1 x2 x3 x4 σ)
set_option maxRecDepth 100000 in
set_option maxHeartbeats 1000000 in
theorem c_X9_give {nx : Nat} (x1 : Int32) (x2 : Int32) (x3 : Int32) (x4 : Int32) (σ : zS) : zCl 1 zall nx zall nx 229 [.inr (9, 57, 468), .inl x1, .inl x2, .inl x3, .inl x4] σ (fun v σ1 => v = none ∧ σ1 = s_X9_give x1 x2 x3 x4 σ) := by
  refine zmeth (cd := kX9_give) [] 1000 (Nat.le_of_ble_eq_true rfl) rfl okX9_give (Nat.le_refl _) (Nat.le_of_ble_eq_true rfl) ?_
  refine And.intro (vp_in_iff.mpr (by decide)) ?_
  refine And.intro (vp_in_iff.mpr (by decide)) ?_
  refine And.intro (vp_in_iff.mpr (by decide)) ?_
  refine And.intro (vp_in_iff.mpr (by decide)) ?_
  exact And.intro rfl (And.intro rfl ⟨rfl, by rw [s_X9_give] <;> rfl⟩)
def f_X9_functionOf (x1 : Int32) (σ : zS) : Int32 := σ.1 482 ((4 * (σ.1 468 16)) + x1).toNatClampNeg
def p_X9_functionOf (x1 : Int32) (σ : zS) : Prop := vp_in ((4 * (σ.1 468 16)) + x1) 8
set_option maxRecDepth 100000 in
set_option maxHeartbeats 1000000 in
theorem c_X9_functionOf {nx : Nat} (x1 : Int32) (σ : zS) (hp : p_X9_functionOf x1 σ) : zCl 1 zall nx zall nx 230 [.inr (9, 57, 468), .inl x1] σ (fun v σ1 => v = some (.inl (f_X9_functionOf x1 σ)) ∧ σ1 = σ) := by
  refine zmeth (cd := kX9_functionOf) [] 1000 (Nat.le_of_ble_eq_true rfl) rfl okX9_functionOf (Nat.le_refl _) (Nat.le_of_ble_eq_true rfl) ?_
  refine And.intro hp ?_
  exact And.intro rfl (And.intro rfl ⟨by rw [f_X9_functionOf] <;> rfl, rfl⟩)
def f_X9_isFree (x1 : Int32) (σ : zS) : Int32 := if (σ.1 469 (12 + x1).toNatClampNeg) = (-1) then 1 else 0
def p_X9_isFree (x1 : Int32) (σ : zS) : Prop := vp_in (12 + x1) 14241
set_option maxRecDepth 100000 in
set_option maxHeartbeats 1000000 in
theorem c_X9_isFree {nx : Nat} (x1 : Int32) (σ : zS) (hp : p_X9_isFree x1 σ) : zCl 1 zall nx zall nx 240 [.inr (9, 57, 468), .inl x1] σ (fun v σ1 => v = some (.inl (f_X9_isFree x1 σ)) ∧ σ1 = σ) := by
  refine zmeth (cd := kX9_isFree) [] 1000 (Nat.le_of_ble_eq_true rfl) rfl okX9_isFree (Nat.le_refl _) (Nat.le_of_ble_eq_true rfl) ?_
  refine And.intro hp ?_
  refine And.intro (fun (h1 : ¬ (σ.1 469 (12 + x1).toNatClampNeg) = (-1)) => ?_) (fun (h1 : (σ.1 469 (12 + x1).toNatClampNeg) = (-1)) => ?_)
  · exact And.intro rfl (And.intro rfl (And.intro (Or.inl rfl) ⟨by rw [f_X9_isFree, if_neg h1] <;> rfl, rfl⟩))
  · exact And.intro rfl (And.intro rfl (And.intro (Or.inr rfl) ⟨by rw [f_X9_isFree, if_pos h1] <;> rfl, rfl⟩))
theorem b_X9_isFree {x1 : Int32} {σ : zS} : f_X9_isFree x1 σ = 0 ∨ f_X9_isFree x1 σ = 1 := by
  unfold f_X9_isFree
  (repeat' split) <;> first | exact Or.inl rfl | exact Or.inr rfl
def f_X9_behind (x1 : Int32) (x2 : Int32) (σ : zS) : Int32 := if 0 ≤ ((x1 + x2) - (x1 + x2) / (f_X9_windowsNow σ) * (f_X9_windowsNow σ)) then ((x1 + x2) - (x1 + x2) / (f_X9_windowsNow σ) * (f_X9_windowsNow σ)) else (((x1 + x2) - (x1 + x2) / (f_X9_windowsNow σ) * (f_X9_windowsNow σ)) + (f_X9_windowsNow σ))
def p_X9_behind (x1 : Int32) (x2 : Int32) (σ : zS) : Prop := p_X9_windowsNow σ ∧ (¬ (f_X9_windowsNow σ) = 0 ∧ (¬ 0 ≤ ((x1 + x2) - (x1 + x2) / (f_X9_windowsNow σ) * (f_X9_windowsNow σ)) → p_X9_windowsNow σ))
set_option maxRecDepth 100000 in
set_option maxHeartbeats 1000000 in
theorem c_X9_behind {nx : Nat} (x1 : Int32) (x2 : Int32) (σ : zS) (hp : p_X9_behind x1 x2 σ) : zCl 2 zall nx zall nx 241 [.inr (9, 57, 468), .inl x1, .inl x2] σ (fun v σ1 => v = some (.inl (f_X9_behind x1 x2 σ)) ∧ σ1 = σ) := by
  refine zmeth (cd := kX9_behind) [] 1000 (Nat.le_of_ble_eq_true rfl) rfl okX9_behind (Nat.le_refl _) (Nat.le_of_ble_eq_true rfl) ?_
  refine zCl.use (c_X9_windowsNow σ hp.1) (Nat.le_of_ble_eq_true rfl) ?_
  rintro _ _ ⟨rfl, rfl⟩
  refine And.intro hp.2.1 ?_
  refine And.intro (fun (h1 : 0 ≤ ((x1 + x2) - (x1 + x2) / (f_X9_windowsNow σ) * (f_X9_windowsNow σ))) => ?_) (fun (h1 : ¬ 0 ≤ ((x1 + x2) - (x1 + x2) / (f_X9_windowsNow σ) * (f_X9_windowsNow σ))) => ?_)
  · exact And.intro rfl (And.intro rfl ⟨by rw [f_X9_behind, if_pos h1] <;> rfl, rfl⟩)
  · refine zCl.use (c_X9_windowsNow σ (hp.2.2 h1)) (Nat.le_of_ble_eq_true rfl) ?_
    rintro _ _ ⟨rfl, rfl⟩
    exact And.intro rfl (And.intro rfl ⟨by rw [f_X9_behind, if_neg h1] <;> rfl, rfl⟩)
def u_X9_place_1 (x1 : Int32) (x2 : Int32) (x3 : Int32) (σ : zS) : zS := zuI σ 469 (12 + x1).toNatClampNeg x2
def u_X9_place_2 (x1 : Int32) (x2 : Int32) (x3 : Int32) (σ : zS) : zS := zuI (u_X9_place_1 x1 x2 x3 σ) 469 (24 + x1).toNatClampNeg x3
def s_X9_place (x1 : Int32) (x2 : Int32) (x3 : Int32) (σ : zS) : zS := (u_X9_place_2 x1 x2 x3 σ)
def p_X9_place (x1 : Int32) (x2 : Int32) (x3 : Int32) (σ : zS) : Prop := vp_in (12 + x1) 14241 ∧ vp_in (24 + x1) 14241
set_option maxRecDepth 100000 in
set_option maxHeartbeats 1000000 in
theorem c_X9_place {nx : Nat} (x1 : Int32) (x2 : Int32) (x3 : Int32) (σ : zS) (hp : p_X9_place x1 x2 x3 σ) : zCl 1 zall nx zall nx 242 [.inr (9, 57, 468), .inl x1, .inl x2, .inl x3] σ (fun v σ1 => v = none ∧ σ1 = s_X9_place x1 x2 x3 σ) := by
  refine zmeth (cd := kX9_place) [] 1000 (Nat.le_of_ble_eq_true rfl) rfl okX9_place (Nat.le_refl _) (Nat.le_of_ble_eq_true rfl) ?_
  refine And.intro hp.1 ?_
  refine And.intro hp.2 ?_
  exact And.intro rfl (And.intro rfl ⟨rfl, by rw [s_X9_place] <;> rfl⟩)
def u_X9_free_1 (x1 : Int32) (σ : zS) : zS := s_X9_place x1 (-1) (-1) σ
def s_X9_free (x1 : Int32) (σ : zS) : zS := (u_X9_free_1 x1 σ)
def p_X9_free (x1 : Int32) (σ : zS) : Prop := p_X9_place x1 (-1) (-1) σ
set_option maxRecDepth 100000 in
set_option maxHeartbeats 1000000 in
theorem c_X9_free {nx : Nat} (x1 : Int32) (σ : zS) (hp : p_X9_free x1 σ) : zCl 2 zall nx zall nx 243 [.inr (9, 57, 468), .inl x1] σ (fun v σ1 => v = none ∧ σ1 = s_X9_free x1 σ) := by
  refine zmeth (cd := kX9_free) [] 1000 (Nat.le_of_ble_eq_true rfl) rfl okX9_free (Nat.le_refl _) (Nat.le_of_ble_eq_true rfl) ?_
  refine zCl.use (c_X9_place x1 (-1) (-1) σ hp) (Nat.le_of_ble_eq_true rfl) ?_
  rintro _ _ ⟨rfl, rfl⟩
  exact And.intro rfl (And.intro rfl ⟨rfl, by rw [s_X9_free] <;> rfl⟩)
def f_X9_windowOf (x1 : Int32) (x2 : Int32) (σ : zS) : Int32 := f_X9_behind (σ.1 469 (f_X9_atTask x1 12).toNatClampNeg) (x2 - (f_X9_frames x1 σ)) σ
def p_X9_windowOf (x1 : Int32) (x2 : Int32) (σ : zS) : Prop := vp_in (f_X9_atTask x1 12) 14241 ∧ (p_X9_frames x1 σ ∧ p_X9_behind (σ.1 469 (f_X9_atTask x1 12).toNatClampNeg) (x2 - (f_X9_frames x1 σ)) σ)
set_option maxRecDepth 100000 in
set_option maxHeartbeats 1000000 in
theorem c_X9_windowOf {nx : Nat} (x1 : Int32) (x2 : Int32) (σ : zS) (hp : p_X9_windowOf x1 x2 σ) : zCl 3 zall nx zall nx 244 [.inr (9, 57, 468), .inl x1, .inl x2] σ (fun v σ1 => v = some (.inl (f_X9_windowOf x1 x2 σ)) ∧ σ1 = σ) := by
  refine zmeth (cd := kX9_windowOf) [] 1000 (Nat.le_of_ble_eq_true rfl) rfl okX9_windowOf (Nat.le_refl _) (Nat.le_of_ble_eq_true rfl) ?_
  refine zCl.use (c_X9_atTask x1 12 σ) (Nat.le_of_ble_eq_true rfl) ?_
  rintro _ _ ⟨rfl, rfl⟩
  refine And.intro hp.1 ?_
  refine zCl.use (c_X9_frames x1 σ hp.2.1) (Nat.le_of_ble_eq_true rfl) ?_
  rintro _ _ ⟨rfl, rfl⟩
  refine zCl.use (c_X9_behind (σ.1 469 (f_X9_atTask x1 12).toNatClampNeg) (x2 - (f_X9_frames x1 σ)) σ hp.2.2) (Nat.le_of_ble_eq_true rfl) ?_
  rintro _ _ ⟨rfl, rfl⟩
  exact And.intro rfl (And.intro rfl ⟨by rw [f_X9_windowOf] <;> rfl, rfl⟩)
def u_X9_askOver_1 (x1 : Int32) (σ : zS) : zS := zuI σ 469 (f_X9_atTask x1 7).toNatClampNeg ((σ.1 469 (f_X9_atTask x1 7).toNatClampNeg) + 1)
def u_X9_askOver_2 (x1 : Int32) (σ : zS) : zS := zuI (u_X9_askOver_1 x1 σ) 469 (f_X9_atTask x1 5).toNatClampNeg (f_X9_less 3 (((u_X9_askOver_1 x1 σ).1 469 (f_X9_atTask x1 5).toNatClampNeg) + 1))
def u_X9_askOver_3 (x1 : Int32) (σ : zS) : zS := zuI (u_X9_askOver_1 x1 σ) 469 (f_X9_atTask x1 6).toNatClampNeg 1
def u_X9_askOver_4 (x1 : Int32) (σ : zS) : zS := zuI (u_X9_askOver_1 x1 σ) 469 (f_X9_atTask x1 6).toNatClampNeg (f_X9_less (2 * ((u_X9_askOver_1 x1 σ).1 469 (f_X9_atTask x1 6).toNatClampNeg)) ((u_X9_askOver_1 x1 σ).1 469 7))
def f_X9_askOver (x1 : Int32) (σ : zS) : Int32 := if ((u_X9_askOver_1 x1 σ).1 469 6) = 0 then 1 else (if ((u_X9_askOver_1 x1 σ).1 469 6) = 1 then ((u_X9_askOver_1 x1 σ).1 469 7) else (if ((u_X9_askOver_1 x1 σ).1 469 6) = 2 then (((u_X9_askOver_1 x1 σ).1 469 (f_X9_atTask x1 5).toNatClampNeg) + 1) else (if ((u_X9_askOver_1 x1 σ).1 469 (f_X9_atTask x1 6).toNatClampNeg) ≤ 0 then ((u_X9_askOver_3 x1 σ).1 469 (f_X9_atTask x1 6).toNatClampNeg) else ((u_X9_askOver_4 x1 σ).1 469 (f_X9_atTask x1 6).toNatClampNeg))))
def s_X9_askOver (x1 : Int32) (σ : zS) : zS := if ((u_X9_askOver_1 x1 σ).1 469 6) = 0 then (u_X9_askOver_1 x1 σ) else (if ((u_X9_askOver_1 x1 σ).1 469 6) = 1 then (u_X9_askOver_1 x1 σ) else (if ((u_X9_askOver_1 x1 σ).1 469 6) = 2 then (u_X9_askOver_2 x1 σ) else (if ((u_X9_askOver_1 x1 σ).1 469 (f_X9_atTask x1 6).toNatClampNeg) ≤ 0 then (u_X9_askOver_3 x1 σ) else (u_X9_askOver_4 x1 σ))))
def p_X9_askOver (x1 : Int32) (σ : zS) : Prop := vp_in (f_X9_atTask x1 7) 14241 ∧ (vp_in (f_X9_atTask x1 5) 14241 ∧ vp_in (f_X9_atTask x1 6) 14241)
set_option maxRecDepth 100000 in
set_option maxHeartbeats 1000000 in
theorem c_X9_askOver {nx : Nat} (x1 : Int32) (σ : zS) (hp : p_X9_askOver x1 σ) : zCl 2 zall nx zall nx 245 [.inr (9, 57, 468), .inl x1] σ (fun v σ1 => v = some (.inl (f_X9_askOver x1 σ)) ∧ σ1 = s_X9_askOver x1 σ) := by
  refine zmeth (cd := kX9_askOver) [] 1000 (Nat.le_of_ble_eq_true rfl) rfl okX9_askOver (Nat.le_refl _) (Nat.le_of_ble_eq_true rfl) ?_
  refine zCl.use (c_X9_atTask x1 7 σ) (Nat.le_of_ble_eq_true rfl) ?_
  rintro _ _ ⟨rfl, rfl⟩
  refine And.intro hp.1 ?_
  refine And.intro hp.1 ?_
  refine zCl.use (c_X9_atTask x1 5 (u_X9_askOver_1 x1 σ)) (Nat.le_of_ble_eq_true rfl) ?_
  rintro _ _ ⟨rfl, rfl⟩
  refine And.intro hp.2.1 ?_
  refine zCl.use (c_X9_atTask x1 6 (u_X9_askOver_1 x1 σ)) (Nat.le_of_ble_eq_true rfl) ?_
  rintro _ _ ⟨rfl, rfl⟩
  refine And.intro hp.2.2 ?_
  refine And.intro (vp_in_iff.mpr (by decide)) ?_
  refine And.intro (fun (h1 : ((u_X9_askOver_1 x1 σ).1 469 6) = 0) => ?_) (fun (h1 : ¬ ((u_X9_askOver_1 x1 σ).1 469 6) = 0) => ?_)
  · exact And.intro rfl (And.intro rfl ⟨by rw [f_X9_askOver, if_pos h1] <;> rfl, by rw [s_X9_askOver, if_pos h1] <;> rfl⟩)
  · refine And.intro (fun (h2 : ((u_X9_askOver_1 x1 σ).1 469 6) = 1) => ?_) (fun (h2 : ¬ ((u_X9_askOver_1 x1 σ).1 469 6) = 1) => ?_)
    · refine And.intro (vp_in_iff.mpr (by decide)) ?_
      exact And.intro rfl (And.intro rfl ⟨by rw [f_X9_askOver, if_neg h1, if_pos h2] <;> rfl, by rw [s_X9_askOver, if_neg h1, if_pos h2] <;> rfl⟩)
    · refine And.intro (fun (h3 : ((u_X9_askOver_1 x1 σ).1 469 6) = 2) => ?_) (fun (h3 : ¬ ((u_X9_askOver_1 x1 σ).1 469 6) = 2) => ?_)
      · refine zCl.use (c_X9_atTask x1 5 (u_X9_askOver_1 x1 σ)) (Nat.le_of_ble_eq_true rfl) ?_
        rintro _ _ ⟨rfl, rfl⟩
        refine zCl.use (c_X9_less 3 (((u_X9_askOver_1 x1 σ).1 469 (f_X9_atTask x1 5).toNatClampNeg) + 1) (u_X9_askOver_1 x1 σ)) (Nat.le_of_ble_eq_true rfl) ?_
        rintro _ _ ⟨rfl, rfl⟩
        refine And.intro hp.2.1 ?_
        exact And.intro rfl (And.intro rfl ⟨by rw [f_X9_askOver, if_neg h1, if_neg h2, if_pos h3] <;> rfl, by rw [s_X9_askOver, if_neg h1, if_neg h2, if_pos h3] <;> rfl⟩)
      · refine zCl.use (c_X9_atTask x1 6 (u_X9_askOver_1 x1 σ)) (Nat.le_of_ble_eq_true rfl) ?_
        rintro _ _ ⟨rfl, rfl⟩
        refine And.intro (fun (h4 : ((u_X9_askOver_1 x1 σ).1 469 (f_X9_atTask x1 6).toNatClampNeg) ≤ 0) => ?_) (fun (h4 : ¬ ((u_X9_askOver_1 x1 σ).1 469 (f_X9_atTask x1 6).toNatClampNeg) ≤ 0) => ?_)
        · refine And.intro hp.2.2 ?_
          refine zCl.use (c_X9_atTask x1 6 (u_X9_askOver_3 x1 σ)) (Nat.le_of_ble_eq_true rfl) ?_
          rintro _ _ ⟨rfl, rfl⟩
          refine And.intro hp.2.2 ?_
          exact And.intro rfl (And.intro rfl ⟨by rw [f_X9_askOver, if_neg h1, if_neg h2, if_neg h3, if_pos h4] <;> rfl, by rw [s_X9_askOver, if_neg h1, if_neg h2, if_neg h3, if_pos h4] <;> rfl⟩)
        · refine And.intro (vp_in_iff.mpr (by decide)) ?_
          refine zCl.use (c_X9_less (2 * ((u_X9_askOver_1 x1 σ).1 469 (f_X9_atTask x1 6).toNatClampNeg)) ((u_X9_askOver_1 x1 σ).1 469 7) (u_X9_askOver_1 x1 σ)) (Nat.le_of_ble_eq_true rfl) ?_
          rintro _ _ ⟨rfl, rfl⟩
          refine And.intro hp.2.2 ?_
          refine zCl.use (c_X9_atTask x1 6 (u_X9_askOver_4 x1 σ)) (Nat.le_of_ble_eq_true rfl) ?_
          rintro _ _ ⟨rfl, rfl⟩
          refine And.intro hp.2.2 ?_
          exact And.intro rfl (And.intro rfl ⟨by rw [f_X9_askOver, if_neg h1, if_neg h2, if_neg h3, if_neg h4] <;> rfl, by rw [s_X9_askOver, if_neg h1, if_neg h2, if_neg h3, if_neg h4] <;> rfl⟩)
def u_X9_askUnder_1 (x1 : Int32) (σ : zS) : zS := zuI σ 469 (f_X9_atTask x1 5).toNatClampNeg (f_X9_more 0 ((σ.1 469 (f_X9_atTask x1 5).toNatClampNeg) - 1))
def u_X9_askUnder_2 (x1 : Int32) (σ : zS) : zS := zuI σ 469 (f_X9_atTask x1 6).toNatClampNeg (-1)
def u_X9_askUnder_3 (x1 : Int32) (σ : zS) : zS := zuI σ 469 (f_X9_atTask x1 6).toNatClampNeg (f_X9_more (2 * (σ.1 469 (f_X9_atTask x1 6).toNatClampNeg)) (-(σ.1 469 7)))
def f_X9_askUnder (x1 : Int32) (σ : zS) : Int32 := if (σ.1 469 6) = 0 then 1 else (if (σ.1 469 6) = 1 then (σ.1 469 7) else (if (σ.1 469 6) = 2 then (4 - (σ.1 469 (f_X9_atTask x1 5).toNatClampNeg)) else (if 0 ≤ (σ.1 469 (f_X9_atTask x1 6).toNatClampNeg) then (-((u_X9_askUnder_2 x1 σ).1 469 (f_X9_atTask x1 6).toNatClampNeg)) else (-((u_X9_askUnder_3 x1 σ).1 469 (f_X9_atTask x1 6).toNatClampNeg)))))
def s_X9_askUnder (x1 : Int32) (σ : zS) : zS := if (σ.1 469 6) = 0 then σ else (if (σ.1 469 6) = 1 then σ else (if (σ.1 469 6) = 2 then (u_X9_askUnder_1 x1 σ) else (if 0 ≤ (σ.1 469 (f_X9_atTask x1 6).toNatClampNeg) then (u_X9_askUnder_2 x1 σ) else (u_X9_askUnder_3 x1 σ))))
def p_X9_askUnder (x1 : Int32) (σ : zS) : Prop := vp_in (f_X9_atTask x1 5) 14241 ∧ vp_in (f_X9_atTask x1 6) 14241
set_option maxRecDepth 100000 in
set_option maxHeartbeats 1000000 in
theorem c_X9_askUnder {nx : Nat} (x1 : Int32) (σ : zS) (hp : p_X9_askUnder x1 σ) : zCl 2 zall nx zall nx 246 [.inr (9, 57, 468), .inl x1] σ (fun v σ1 => v = some (.inl (f_X9_askUnder x1 σ)) ∧ σ1 = s_X9_askUnder x1 σ) := by
  refine zmeth (cd := kX9_askUnder) [] 1000 (Nat.le_of_ble_eq_true rfl) rfl okX9_askUnder (Nat.le_refl _) (Nat.le_of_ble_eq_true rfl) ?_
  refine zCl.use (c_X9_atTask x1 5 σ) (Nat.le_of_ble_eq_true rfl) ?_
  rintro _ _ ⟨rfl, rfl⟩
  refine And.intro hp.1 ?_
  refine zCl.use (c_X9_atTask x1 6 σ) (Nat.le_of_ble_eq_true rfl) ?_
  rintro _ _ ⟨rfl, rfl⟩
  refine And.intro hp.2 ?_
  refine And.intro (vp_in_iff.mpr (by decide)) ?_
  refine And.intro (fun (h1 : (σ.1 469 6) = 0) => ?_) (fun (h1 : ¬ (σ.1 469 6) = 0) => ?_)
  · exact And.intro rfl (And.intro rfl ⟨by rw [f_X9_askUnder, if_pos h1] <;> rfl, by rw [s_X9_askUnder, if_pos h1] <;> rfl⟩)
  · refine And.intro (fun (h2 : (σ.1 469 6) = 1) => ?_) (fun (h2 : ¬ (σ.1 469 6) = 1) => ?_)
    · refine And.intro (vp_in_iff.mpr (by decide)) ?_
      exact And.intro rfl (And.intro rfl ⟨by rw [f_X9_askUnder, if_neg h1, if_pos h2] <;> rfl, by rw [s_X9_askUnder, if_neg h1, if_pos h2] <;> rfl⟩)
    · refine And.intro (fun (h3 : (σ.1 469 6) = 2) => ?_) (fun (h3 : ¬ (σ.1 469 6) = 2) => ?_)
      · refine zCl.use (c_X9_atTask x1 5 σ) (Nat.le_of_ble_eq_true rfl) ?_
        rintro _ _ ⟨rfl, rfl⟩
        refine zCl.use (c_X9_more 0 ((σ.1 469 (f_X9_atTask x1 5).toNatClampNeg) - 1) σ) (Nat.le_of_ble_eq_true rfl) ?_
        rintro _ _ ⟨rfl, rfl⟩
        refine And.intro hp.1 ?_
        exact And.intro rfl (And.intro rfl ⟨by rw [f_X9_askUnder, if_neg h1, if_neg h2, if_pos h3] <;> rfl, by rw [s_X9_askUnder, if_neg h1, if_neg h2, if_pos h3] <;> rfl⟩)
      · refine zCl.use (c_X9_atTask x1 6 σ) (Nat.le_of_ble_eq_true rfl) ?_
        rintro _ _ ⟨rfl, rfl⟩
        refine And.intro (fun (h4 : 0 ≤ (σ.1 469 (f_X9_atTask x1 6).toNatClampNeg)) => ?_) (fun (h4 : ¬ 0 ≤ (σ.1 469 (f_X9_atTask x1 6).toNatClampNeg)) => ?_)
        · refine And.intro hp.2 ?_
          refine zCl.use (c_X9_atTask x1 6 (u_X9_askUnder_2 x1 σ)) (Nat.le_of_ble_eq_true rfl) ?_
          rintro _ _ ⟨rfl, rfl⟩
          refine And.intro hp.2 ?_
          exact And.intro rfl (And.intro rfl ⟨by rw [f_X9_askUnder, if_neg h1, if_neg h2, if_neg h3, if_pos h4] <;> rfl, by rw [s_X9_askUnder, if_neg h1, if_neg h2, if_neg h3, if_pos h4] <;> rfl⟩)
        · refine And.intro (vp_in_iff.mpr (by decide)) ?_
          refine zCl.use (c_X9_more (2 * (σ.1 469 (f_X9_atTask x1 6).toNatClampNeg)) (-(σ.1 469 7)) σ) (Nat.le_of_ble_eq_true rfl) ?_
          rintro _ _ ⟨rfl, rfl⟩
          refine And.intro hp.2 ?_
          refine zCl.use (c_X9_atTask x1 6 (u_X9_askUnder_3 x1 σ)) (Nat.le_of_ble_eq_true rfl) ?_
          rintro _ _ ⟨rfl, rfl⟩
          refine And.intro hp.2 ?_
          exact And.intro rfl (And.intro rfl ⟨by rw [f_X9_askUnder, if_neg h1, if_neg h2, if_neg h3, if_neg h4] <;> rfl, by rw [s_X9_askUnder, if_neg h1, if_neg h2, if_neg h3, if_neg h4] <;> rfl⟩)
def u_X9_come_1 (x1 : Int32) (x2 : Int32) (σ : zS) : zS := zuI σ 469 (f_X9_atTask x1 12).toNatClampNeg x2
def u_X9_come_2 (x1 : Int32) (x2 : Int32) (σ : zS) : zS := zuI (u_X9_come_1 x1 x2 σ) 469 (f_X9_atTask x1 2).toNatClampNeg 1
def u_X9_come_3 (x1 : Int32) (x2 : Int32) (σ : zS) : zS := s_X9_place x2 x1 (f_X9_frames x1 (u_X9_come_2 x1 x2 σ)) (u_X9_come_2 x1 x2 σ)
def s_X9_come (x1 : Int32) (x2 : Int32) (σ : zS) : zS := (u_X9_come_3 x1 x2 σ)
def p_X9_come (x1 : Int32) (x2 : Int32) (σ : zS) : Prop := vp_in (f_X9_atTask x1 12) 14241 ∧ (vp_in (f_X9_atTask x1 2) 14241 ∧ (p_X9_frames x1 (u_X9_come_2 x1 x2 σ) ∧ p_X9_place x2 x1 (f_X9_frames x1 (u_X9_come_2 x1 x2 σ)) (u_X9_come_2 x1 x2 σ)))
set_option maxRecDepth 100000 in
set_option maxHeartbeats 1000000 in
theorem c_X9_come {nx : Nat} (x1 : Int32) (x2 : Int32) (σ : zS) (hp : p_X9_come x1 x2 σ) : zCl 3 zall nx zall nx 249 [.inr (9, 57, 468), .inl x1, .inl x2] σ (fun v σ1 => v = none ∧ σ1 = s_X9_come x1 x2 σ) := by
  refine zmeth (cd := kX9_come) [] 1000 (Nat.le_of_ble_eq_true rfl) rfl okX9_come (Nat.le_refl _) (Nat.le_of_ble_eq_true rfl) ?_
  refine zCl.use (c_X9_atTask x1 12 σ) (Nat.le_of_ble_eq_true rfl) ?_
  rintro _ _ ⟨rfl, rfl⟩
  refine And.intro hp.1 ?_
  refine zCl.use (c_X9_atTask x1 2 (u_X9_come_1 x1 x2 σ)) (Nat.le_of_ble_eq_true rfl) ?_
  rintro _ _ ⟨rfl, rfl⟩
  refine And.intro hp.2.1 ?_
  refine zCl.use (c_X9_frames x1 (u_X9_come_2 x1 x2 σ) hp.2.2.1) (Nat.le_of_ble_eq_true rfl) ?_
  rintro _ _ ⟨rfl, rfl⟩
  refine zCl.use (c_X9_place x2 x1 (f_X9_frames x1 (u_X9_come_2 x1 x2 σ)) (u_X9_come_2 x1 x2 σ) hp.2.2.2) (Nat.le_of_ble_eq_true rfl) ?_
  rintro _ _ ⟨rfl, rfl⟩
  exact And.intro rfl (And.intro rfl ⟨rfl, by rw [s_X9_come] <;> rfl⟩)
def f_X9_wanted (σ : zS) : Int32 := if 0 ≤ (σ.1 469 10) then (f_X9_behind (σ.1 469 10) 1 σ) else 0
def p_X9_wanted (σ : zS) : Prop := 0 ≤ (σ.1 469 10) → p_X9_behind (σ.1 469 10) 1 σ
set_option maxRecDepth 100000 in
set_option maxHeartbeats 1000000 in
theorem c_X9_wanted {nx : Nat} (σ : zS) (hp : p_X9_wanted σ) : zCl 3 zall nx zall nx 250 [.inr (9, 57, 468)] σ (fun v σ1 => v = some (.inl (f_X9_wanted σ)) ∧ σ1 = σ) := by
  refine zmeth (cd := kX9_wanted) [] 1000 (Nat.le_of_ble_eq_true rfl) rfl okX9_wanted (Nat.le_refl _) (Nat.le_of_ble_eq_true rfl) ?_
  refine And.intro (vp_in_iff.mpr (by decide)) ?_
  refine And.intro (fun (h1 : 0 ≤ (σ.1 469 10)) => ?_) (fun (h1 : ¬ 0 ≤ (σ.1 469 10)) => ?_)
  · refine And.intro (vp_in_iff.mpr (by decide)) ?_
    refine zCl.use (c_X9_behind (σ.1 469 10) 1 σ (hp h1)) (Nat.le_of_ble_eq_true rfl) ?_
    rintro _ _ ⟨rfl, rfl⟩
    exact And.intro rfl (And.intro rfl ⟨by rw [f_X9_wanted, if_pos h1] <;> rfl, rfl⟩)
  · exact And.intro rfl (And.intro rfl ⟨by rw [f_X9_wanted, if_neg h1] <;> rfl, rfl⟩)
def f_X9_isOver (x1 : Int32) (σ : zS) : Int32 := if (f_X9_state x1 σ) ≤ 1 then 0 else 1
def p_X9_isOver (x1 : Int32) (σ : zS) : Prop := p_X9_state x1 σ
set_option maxRecDepth 100000 in
set_option maxHeartbeats 1000000 in
theorem c_X9_isOver {nx : Nat} (x1 : Int32) (σ : zS) (hp : p_X9_isOver x1 σ) : zCl 3 zall nx zall nx 257 [.inr (9, 57, 468), .inl x1] σ (fun v σ1 => v = some (.inl (f_X9_isOver x1 σ)) ∧ σ1 = σ) := by
  refine zmeth (cd := kX9_isOver) [] 1000 (Nat.le_of_ble_eq_true rfl) rfl okX9_isOver (Nat.le_refl _) (Nat.le_of_ble_eq_true rfl) ?_
  refine zCl.use (c_X9_state x1 σ hp) (Nat.le_of_ble_eq_true rfl) ?_
  rintro _ _ ⟨rfl, rfl⟩
  refine And.intro (fun (h1 : (f_X9_state x1 σ) ≤ 1) => ?_) (fun (h1 : ¬ (f_X9_state x1 σ) ≤ 1) => ?_)
  · exact And.intro rfl (And.intro rfl (And.intro (Or.inl rfl) ⟨by rw [f_X9_isOver, if_pos h1] <;> rfl, rfl⟩))
  · exact And.intro rfl (And.intro rfl (And.intro (Or.inr rfl) ⟨by rw [f_X9_isOver, if_neg h1] <;> rfl, rfl⟩))
theorem b_X9_isOver {x1 : Int32} {σ : zS} : f_X9_isOver x1 σ = 0 ∨ f_X9_isOver x1 σ = 1 := by
  unfold f_X9_isOver
  (repeat' split) <;> first | exact Or.inl rfl | exact Or.inr rfl
def f_X9_cost (σ : zS) : Int32 := ((σ.1 469 1) * (σ.1 469 8)) + ((σ.1 469 2) * (σ.1 469 9))
set_option maxRecDepth 100000 in
set_option maxHeartbeats 1000000 in
theorem c_X9_cost {nx : Nat} (σ : zS) : zCl 1 zall nx zall nx 261 [.inr (9, 57, 468)] σ (fun v σ1 => v = some (.inl (f_X9_cost σ)) ∧ σ1 = σ) := by
  refine zmeth (cd := kX9_cost) [] 1000 (Nat.le_of_ble_eq_true rfl) rfl okX9_cost (Nat.le_refl _) (Nat.le_of_ble_eq_true rfl) ?_
  refine And.intro (vp_in_iff.mpr (by decide)) ?_
  refine And.intro (vp_in_iff.mpr (by decide)) ?_
  refine And.intro (vp_in_iff.mpr (by decide)) ?_
  refine And.intro (vp_in_iff.mpr (by decide)) ?_
  exact And.intro rfl (And.intro rfl ⟨by rw [f_X9_cost] <;> rfl, rfl⟩)
def f_X9_isWay (x1 : Int32) (x2 : Int32) : Int32 := if x1 = 0 then 1 else (if x1 = 2 then 1 else (if x1 = 1 then (if (f_X9_isIn x2 1 8) = 0 then (if x1 = 3 then (if (f_X9_isIn x2 1 16) = 0 then 0 else 1) else 0) else 1) else (if x1 = 3 then (if (f_X9_isIn x2 1 16) = 0 then 0 else 1) else 0)))
set_option maxRecDepth 100000 in
set_option maxHeartbeats 1000000 in
theorem c_X9_isWay {nx : Nat} (x1 : Int32) (x2 : Int32) (σ : zS) : zCl 2 zall nx zall nx 263 [.inl x1, .inl x2] σ (fun v σ1 => v = some (.inl (f_X9_isWay x1 x2)) ∧ σ1 = σ) := by
  refine zmeth (cd := kX9_isWay) [] 1000 (Nat.le_of_ble_eq_true rfl) rfl okX9_isWay (Nat.le_refl _) (Nat.le_of_ble_eq_true rfl) ?_
  refine And.intro (fun (h1 : x1 = 0) => ?_) (fun (h1 : ¬ x1 = 0) => ?_)
  · exact And.intro rfl (And.intro rfl (And.intro (Or.inr rfl) ⟨by rw [f_X9_isWay, if_pos h1] <;> rfl, rfl⟩))
  · refine And.intro (fun (h2 : x1 = 2) => ?_) (fun (h2 : ¬ x1 = 2) => ?_)
    · exact And.intro rfl (And.intro rfl (And.intro (Or.inr rfl) ⟨by rw [f_X9_isWay, if_neg h1, if_pos h2] <;> rfl, rfl⟩))
    · refine And.intro (fun (h3 : ¬ x1 = 1) => ?_) (fun (h3 : x1 = 1) => ?_)
      · refine And.intro (fun (h4 : ¬ x1 = 3) => ?_) (fun (h4 : x1 = 3) => ?_)
        · exact And.intro rfl (And.intro rfl (And.intro (Or.inl rfl) ⟨by rw [f_X9_isWay, if_neg h1, if_neg h2, if_neg h3, if_neg h4] <;> rfl, rfl⟩))
        · refine zCl.use (c_X9_isIn x2 1 16 σ) (Nat.le_of_ble_eq_true rfl) ?_
          rintro _ _ ⟨rfl, rfl⟩
          refine And.intro (fun (h5 : (f_X9_isIn x2 1 16) = 0) => ?_) (fun (h5 : ¬ (f_X9_isIn x2 1 16) = 0) => ?_)
          · exact And.intro rfl (And.intro rfl (And.intro (Or.inl rfl) ⟨by rw [f_X9_isWay, if_neg h1, if_neg h2, if_neg h3, if_pos h4, if_pos h5] <;> rfl, rfl⟩))
          · exact And.intro rfl (And.intro rfl (And.intro (Or.inr rfl) ⟨by rw [f_X9_isWay, if_neg h1, if_neg h2, if_neg h3, if_pos h4, if_neg h5] <;> rfl, rfl⟩))
      · refine zCl.use (c_X9_isIn x2 1 8 σ) (Nat.le_of_ble_eq_true rfl) ?_
        rintro _ _ ⟨rfl, rfl⟩
        refine And.intro (fun (h6 : ¬ (f_X9_isIn x2 1 8) = 0) => ?_) (fun (h6 : (f_X9_isIn x2 1 8) = 0) => ?_)
        · exact And.intro rfl (And.intro rfl (And.intro (Or.inr rfl) ⟨by rw [f_X9_isWay, if_neg h1, if_neg h2, if_pos h3, if_neg h6] <;> rfl, rfl⟩))
        · refine And.intro (fun (h7 : ¬ x1 = 3) => ?_) (fun (h7 : x1 = 3) => ?_)
          · exact And.intro rfl (And.intro rfl (And.intro (Or.inl rfl) ⟨by rw [f_X9_isWay, if_neg h1, if_neg h2, if_pos h3, if_pos h6, if_neg h7] <;> rfl, rfl⟩))
          · refine zCl.use (c_X9_isIn x2 1 16 σ) (Nat.le_of_ble_eq_true rfl) ?_
            rintro _ _ ⟨rfl, rfl⟩
            refine And.intro (fun (h8 : (f_X9_isIn x2 1 16) = 0) => ?_) (fun (h8 : ¬ (f_X9_isIn x2 1 16) = 0) => ?_)
            · exact And.intro rfl (And.intro rfl (And.intro (Or.inl rfl) ⟨by rw [f_X9_isWay, if_neg h1, if_neg h2, if_pos h3, if_pos h6, if_pos h7, if_pos h8] <;> rfl, rfl⟩))
            · exact And.intro rfl (And.intro rfl (And.intro (Or.inr rfl) ⟨by rw [f_X9_isWay, if_neg h1, if_neg h2, if_pos h3, if_pos h6, if_pos h7, if_neg h8] <;> rfl, rfl⟩))
theorem b_X9_isWay {x1 : Int32} {x2 : Int32} : f_X9_isWay x1 x2 = 0 ∨ f_X9_isWay x1 x2 = 1 := by
  unfold f_X9_isWay
  (repeat' split) <;> first | exact Or.inl rfl | exact Or.inr rfl
def f_X9_task (x1 : Int32) (x2 : Int32) (σ : zS) : Int32 := if (f_X9_isTask x1 σ) = 0 then (-100) else (if x2 = 0 then (f_X9_functionOf x1 σ) else (if (f_X9_isIn x2 1 11) = 0 then (-100) else (σ.1 469 (f_X9_atTask x1 (x2 - 1)).toNatClampNeg)))
def p_X9_task (x1 : Int32) (x2 : Int32) (σ : zS) : Prop := p_X9_isTask x1 σ ∧ (¬ (f_X9_isTask x1 σ) = 0 → ((¬ x2 = 0 → (¬ (f_X9_isIn x2 1 11) = 0 → vp_in (f_X9_atTask x1 (x2 - 1)) 14241)) ∧ (x2 = 0 → p_X9_functionOf x1 σ)))
set_option maxRecDepth 100000 in
set_option maxHeartbeats 1000000 in
theorem c_X9_task {nx : Nat} (x1 : Int32) (x2 : Int32) (σ : zS) (hp : p_X9_task x1 x2 σ) : zCl 3 zall nx zall nx 269 [.inr (9, 57, 468), .inl x1, .inl x2] σ (fun v σ1 => v = some (.inl (f_X9_task x1 x2 σ)) ∧ σ1 = σ) := by
  refine zmeth (cd := kX9_task) [] 1000 (Nat.le_of_ble_eq_true rfl) rfl okX9_task (Nat.le_refl _) (Nat.le_of_ble_eq_true rfl) ?_
  refine zCl.use (c_X9_isTask x1 σ hp.1) (Nat.le_of_ble_eq_true rfl) ?_
  rintro _ _ ⟨rfl, rfl⟩
  refine And.intro (fun (h1 : ¬ (f_X9_isTask x1 σ) = 0) => ?_) (fun (h1 : (f_X9_isTask x1 σ) = 0) => ?_)
  · refine And.intro (fun (h2 : ¬ x2 = 0) => ?_) (fun (h2 : x2 = 0) => ?_)
    · refine zCl.use (c_X9_isIn x2 1 11 σ) (Nat.le_of_ble_eq_true rfl) ?_
      rintro _ _ ⟨rfl, rfl⟩
      refine And.intro (fun (h3 : (f_X9_isIn x2 1 11) = 0) => ?_) (fun (h3 : ¬ (f_X9_isIn x2 1 11) = 0) => ?_)
      · exact And.intro rfl (And.intro rfl ⟨by rw [f_X9_task, if_neg h1, if_neg h2, if_pos h3] <;> rfl, rfl⟩)
      · refine zCl.use (c_X9_atTask x1 (x2 - 1) σ) (Nat.le_of_ble_eq_true rfl) ?_
        rintro _ _ ⟨rfl, rfl⟩
        refine And.intro (((hp.2 h1).1 h2) h3) ?_
        exact And.intro rfl (And.intro rfl ⟨by rw [f_X9_task, if_neg h1, if_neg h2, if_neg h3] <;> rfl, rfl⟩)
    · refine zCl.use (c_X9_functionOf x1 σ ((hp.2 h1).2 h2)) (Nat.le_of_ble_eq_true rfl) ?_
      rintro _ _ ⟨rfl, rfl⟩
      exact And.intro rfl (And.intro rfl ⟨by rw [f_X9_task, if_neg h1, if_pos h2] <;> rfl, rfl⟩)
  · exact And.intro rfl (And.intro rfl ⟨by rw [f_X9_task, if_pos h1] <;> rfl, rfl⟩)
def f_X9_result (x1 : Int32) (σ : zS) : Int32 := if (f_X9_isTask x1 σ) = 0 then 0 else (if (f_X9_state x1 σ) = 2 then (σ.1 469 (f_X9_atTask x1 11).toNatClampNeg) else 0)
def p_X9_result (x1 : Int32) (σ : zS) : Prop := p_X9_isTask x1 σ ∧ (¬ (f_X9_isTask x1 σ) = 0 → (p_X9_state x1 σ ∧ ((f_X9_state x1 σ) = 2 → vp_in (f_X9_atTask x1 11) 14241)))
set_option maxRecDepth 100000 in
set_option maxHeartbeats 1000000 in
theorem c_X9_result {nx : Nat} (x1 : Int32) (σ : zS) (hp : p_X9_result x1 σ) : zCl 3 zall nx zall nx 270 [.inr (9, 57, 468), .inl x1] σ (fun v σ1 => v = some (.inl (f_X9_result x1 σ)) ∧ σ1 = σ) := by
  refine zmeth (cd := kX9_result) [] 1000 (Nat.le_of_ble_eq_true rfl) rfl okX9_result (Nat.le_refl _) (Nat.le_of_ble_eq_true rfl) ?_
  refine zCl.use (c_X9_isTask x1 σ hp.1) (Nat.le_of_ble_eq_true rfl) ?_
  rintro _ _ ⟨rfl, rfl⟩
  refine And.intro (fun (h1 : (f_X9_isTask x1 σ) = 0) => ?_) (fun (h1 : ¬ (f_X9_isTask x1 σ) = 0) => ?_)
  · exact And.intro rfl (And.intro rfl ⟨by rw [f_X9_result, if_pos h1] <;> rfl, rfl⟩)
  · refine zCl.use (c_X9_state x1 σ (hp.2 h1).1) (Nat.le_of_ble_eq_true rfl) ?_
    rintro _ _ ⟨rfl, rfl⟩
    refine And.intro (fun (h2 : ¬ (f_X9_state x1 σ) = 2) => ?_) (fun (h2 : (f_X9_state x1 σ) = 2) => ?_)
    · exact And.intro rfl (And.intro rfl ⟨by rw [f_X9_result, if_neg h1, if_neg h2] <;> rfl, rfl⟩)
    · refine zCl.use (c_X9_atTask x1 11 σ) (Nat.le_of_ble_eq_true rfl) ?_
      rintro _ _ ⟨rfl, rfl⟩
      refine And.intro ((hp.2 h1).2 h2) ?_
      exact And.intro rfl (And.intro rfl ⟨by rw [f_X9_result, if_neg h1, if_pos h2] <;> rfl, rfl⟩)
def f_X9_window (x1 : Int32) (x2 : Int32) (σ : zS) : Int32 := if (f_X9_isWindow x1 σ) = 0 then (-2) else (if (f_X9_isIn x2 0 1) = 0 then (-2) else (if x2 = 0 then (σ.1 469 (12 + x1).toNatClampNeg) else (σ.1 469 (24 + x1).toNatClampNeg)))
def p_X9_window (x1 : Int32) (x2 : Int32) (σ : zS) : Prop := p_X9_isWindow x1 σ ∧ (¬ (f_X9_isWindow x1 σ) = 0 → (¬ (f_X9_isIn x2 0 1) = 0 → ((¬ x2 = 0 → vp_in (24 + x1) 14241) ∧ (x2 = 0 → vp_in (12 + x1) 14241))))
set_option maxRecDepth 100000 in
set_option maxHeartbeats 1000000 in
theorem c_X9_window {nx : Nat} (x1 : Int32) (x2 : Int32) (σ : zS) (hp : p_X9_window x1 x2 σ) : zCl 3 zall nx zall nx 271 [.inr (9, 57, 468), .inl x1, .inl x2] σ (fun v σ1 => v = some (.inl (f_X9_window x1 x2 σ)) ∧ σ1 = σ) := by
  refine zmeth (cd := kX9_window) [] 1000 (Nat.le_of_ble_eq_true rfl) rfl okX9_window (Nat.le_refl _) (Nat.le_of_ble_eq_true rfl) ?_
  refine zCl.use (c_X9_isWindow x1 σ hp.1) (Nat.le_of_ble_eq_true rfl) ?_
  rintro _ _ ⟨rfl, rfl⟩
  refine And.intro (fun (h1 : (f_X9_isWindow x1 σ) = 0) => ?_) (fun (h1 : ¬ (f_X9_isWindow x1 σ) = 0) => ?_)
  · exact And.intro rfl (And.intro rfl ⟨by rw [f_X9_window, if_pos h1] <;> rfl, rfl⟩)
  · refine zCl.use (c_X9_isIn x2 0 1 σ) (Nat.le_of_ble_eq_true rfl) ?_
    rintro _ _ ⟨rfl, rfl⟩
    refine And.intro (fun (h2 : (f_X9_isIn x2 0 1) = 0) => ?_) (fun (h2 : ¬ (f_X9_isIn x2 0 1) = 0) => ?_)
    · exact And.intro rfl (And.intro rfl ⟨by rw [f_X9_window, if_neg h1, if_pos h2] <;> rfl, rfl⟩)
    · refine And.intro (fun (h3 : ¬ x2 = 0) => ?_) (fun (h3 : x2 = 0) => ?_)
      · refine And.intro (((hp.2 h1) h2).1 h3) ?_
        exact And.intro rfl (And.intro rfl ⟨by rw [f_X9_window, if_neg h1, if_neg h2, if_neg h3] <;> rfl, rfl⟩)
      · refine And.intro (((hp.2 h1) h2).2 h3) ?_
        exact And.intro rfl (And.intro rfl ⟨by rw [f_X9_window, if_neg h1, if_neg h2, if_pos h3] <;> rfl, rfl⟩)
def f_X9_register (x1 : Int32) (x2 : Int32) (σ : zS) : Int32 := if (f_X9_isWindow x1 σ) = 0 then 0 else (if (f_X9_isFree x1 σ) = 0 then (if (f_X9_isIn x2 0 3) = 0 then 0 else (σ.1 469 (f_X9_atFrame (σ.1 469 (12 + x1).toNatClampNeg) (σ.1 469 (24 + x1).toNatClampNeg) (2 + x2)).toNatClampNeg)) else 0)
def p_X9_register (x1 : Int32) (x2 : Int32) (σ : zS) : Prop := p_X9_isWindow x1 σ ∧ (¬ (f_X9_isWindow x1 σ) = 0 → (p_X9_isFree x1 σ ∧ ((f_X9_isFree x1 σ) = 0 → (¬ (f_X9_isIn x2 0 3) = 0 → (vp_in (12 + x1) 14241 ∧ (vp_in (24 + x1) 14241 ∧ vp_in (f_X9_atFrame (σ.1 469 (12 + x1).toNatClampNeg) (σ.1 469 (24 + x1).toNatClampNeg) (2 + x2)) 14241))))))
set_option maxRecDepth 100000 in
set_option maxHeartbeats 1000000 in
theorem c_X9_register {nx : Nat} (x1 : Int32) (x2 : Int32) (σ : zS) (hp : p_X9_register x1 x2 σ) : zCl 3 zall nx zall nx 272 [.inr (9, 57, 468), .inl x1, .inl x2] σ (fun v σ1 => v = some (.inl (f_X9_register x1 x2 σ)) ∧ σ1 = σ) := by
  refine zmeth (cd := kX9_register) [] 1000 (Nat.le_of_ble_eq_true rfl) rfl okX9_register (Nat.le_refl _) (Nat.le_of_ble_eq_true rfl) ?_
  refine zCl.use (c_X9_isWindow x1 σ hp.1) (Nat.le_of_ble_eq_true rfl) ?_
  rintro _ _ ⟨rfl, rfl⟩
  refine And.intro (fun (h1 : (f_X9_isWindow x1 σ) = 0) => ?_) (fun (h1 : ¬ (f_X9_isWindow x1 σ) = 0) => ?_)
  · exact And.intro rfl (And.intro rfl ⟨by rw [f_X9_register, if_pos h1] <;> rfl, rfl⟩)
  · refine zCl.use (c_X9_isFree x1 σ (hp.2 h1).1) (Nat.le_of_ble_eq_true rfl) ?_
    rintro _ _ ⟨rfl, rfl⟩
    refine And.intro (fun (h2 : ¬ (f_X9_isFree x1 σ) = 0) => ?_) (fun (h2 : (f_X9_isFree x1 σ) = 0) => ?_)
    · exact And.intro rfl (And.intro rfl ⟨by rw [f_X9_register, if_neg h1, if_neg h2] <;> rfl, rfl⟩)
    · refine zCl.use (c_X9_isIn x2 0 3 σ) (Nat.le_of_ble_eq_true rfl) ?_
      rintro _ _ ⟨rfl, rfl⟩
      refine And.intro (fun (h3 : ¬ (f_X9_isIn x2 0 3) = 0) => ?_) (fun (h3 : (f_X9_isIn x2 0 3) = 0) => ?_)
      · refine And.intro (((hp.2 h1).2 h2) h3).1 ?_
        refine And.intro (((hp.2 h1).2 h2) h3).2.1 ?_
        refine zCl.use (c_X9_atFrame (σ.1 469 (12 + x1).toNatClampNeg) (σ.1 469 (24 + x1).toNatClampNeg) (2 + x2) σ) (Nat.le_of_ble_eq_true rfl) ?_
        rintro _ _ ⟨rfl, rfl⟩
        refine And.intro (((hp.2 h1).2 h2) h3).2.2 ?_
        exact And.intro rfl (And.intro rfl ⟨by rw [f_X9_register, if_neg h1, if_pos h2, if_neg h3] <;> rfl, rfl⟩)
      · exact And.intro rfl (And.intro rfl ⟨by rw [f_X9_register, if_neg h1, if_pos h2, if_pos h3] <;> rfl, rfl⟩)
def f_X9_isFrame (x1 : Int32) (x2 : Int32) (σ : zS) : Int32 := if (f_X9_isTask x1 σ) = 0 then 0 else (if (f_X9_isIn x2 1 (f_X9_frames x1 σ)) = 0 then 0 else 1)
def p_X9_isFrame (x1 : Int32) (x2 : Int32) (σ : zS) : Prop := p_X9_isTask x1 σ ∧ (¬ (f_X9_isTask x1 σ) = 0 → p_X9_frames x1 σ)
set_option maxRecDepth 100000 in
set_option maxHeartbeats 1000000 in
theorem c_X9_isFrame {nx : Nat} (x1 : Int32) (x2 : Int32) (σ : zS) (hp : p_X9_isFrame x1 x2 σ) : zCl 3 zall nx zall nx 273 [.inr (9, 57, 468), .inl x1, .inl x2] σ (fun v σ1 => v = some (.inl (f_X9_isFrame x1 x2 σ)) ∧ σ1 = σ) := by
  refine zmeth (cd := kX9_isFrame) [] 1000 (Nat.le_of_ble_eq_true rfl) rfl okX9_isFrame (Nat.le_refl _) (Nat.le_of_ble_eq_true rfl) ?_
  refine zCl.use (c_X9_isTask x1 σ hp.1) (Nat.le_of_ble_eq_true rfl) ?_
  rintro _ _ ⟨rfl, rfl⟩
  refine And.intro (fun (h1 : (f_X9_isTask x1 σ) = 0) => ?_) (fun (h1 : ¬ (f_X9_isTask x1 σ) = 0) => ?_)
  · exact And.intro rfl (And.intro rfl (And.intro (Or.inl rfl) ⟨by rw [f_X9_isFrame, if_pos h1] <;> rfl, rfl⟩))
  · refine zCl.use (c_X9_frames x1 σ (hp.2 h1)) (Nat.le_of_ble_eq_true rfl) ?_
    rintro _ _ ⟨rfl, rfl⟩
    refine zCl.use (c_X9_isIn x2 1 (f_X9_frames x1 σ) σ) (Nat.le_of_ble_eq_true rfl) ?_
    rintro _ _ ⟨rfl, rfl⟩
    refine And.intro (fun (h2 : (f_X9_isIn x2 1 (f_X9_frames x1 σ)) = 0) => ?_) (fun (h2 : ¬ (f_X9_isIn x2 1 (f_X9_frames x1 σ)) = 0) => ?_)
    · exact And.intro rfl (And.intro rfl (And.intro (Or.inl rfl) ⟨by rw [f_X9_isFrame, if_neg h1, if_pos h2] <;> rfl, rfl⟩))
    · exact And.intro rfl (And.intro rfl (And.intro (Or.inr rfl) ⟨by rw [f_X9_isFrame, if_neg h1, if_neg h2] <;> rfl, rfl⟩))
theorem b_X9_isFrame {x1 : Int32} {x2 : Int32} {σ : zS} : f_X9_isFrame x1 x2 σ = 0 ∨ f_X9_isFrame x1 x2 σ = 1 := by
  unfold f_X9_isFrame
  (repeat' split) <;> first | exact Or.inl rfl | exact Or.inr rfl
def f_X9_value (x1 : Int32) (x2 : Int32) (x3 : Int32) (σ : zS) : Int32 := if (f_X9_isFrame x1 x2 σ) = 0 then 0 else (if (f_X9_isIn x3 0 3) = 0 then 0 else (σ.1 469 (f_X9_atFrame x1 x2 (2 + x3)).toNatClampNeg))
def p_X9_value (x1 : Int32) (x2 : Int32) (x3 : Int32) (σ : zS) : Prop := p_X9_isFrame x1 x2 σ ∧ (¬ (f_X9_isFrame x1 x2 σ) = 0 → (¬ (f_X9_isIn x3 0 3) = 0 → vp_in (f_X9_atFrame x1 x2 (2 + x3)) 14241))
set_option maxRecDepth 100000 in
set_option maxHeartbeats 1000000 in
theorem c_X9_value {nx : Nat} (x1 : Int32) (x2 : Int32) (x3 : Int32) (σ : zS) (hp : p_X9_value x1 x2 x3 σ) : zCl 4 zall nx zall nx 274 [.inr (9, 57, 468), .inl x1, .inl x2, .inl x3] σ (fun v σ1 => v = some (.inl (f_X9_value x1 x2 x3 σ)) ∧ σ1 = σ) := by
  refine zmeth (cd := kX9_value) [] 1000 (Nat.le_of_ble_eq_true rfl) rfl okX9_value (Nat.le_refl _) (Nat.le_of_ble_eq_true rfl) ?_
  refine zCl.use (c_X9_isFrame x1 x2 σ hp.1) (Nat.le_of_ble_eq_true rfl) ?_
  rintro _ _ ⟨rfl, rfl⟩
  refine And.intro (fun (h1 : (f_X9_isFrame x1 x2 σ) = 0) => ?_) (fun (h1 : ¬ (f_X9_isFrame x1 x2 σ) = 0) => ?_)
  · exact And.intro rfl (And.intro rfl ⟨by rw [f_X9_value, if_pos h1] <;> rfl, rfl⟩)
  · refine zCl.use (c_X9_isIn x3 0 3 σ) (Nat.le_of_ble_eq_true rfl) ?_
    rintro _ _ ⟨rfl, rfl⟩
    refine And.intro (fun (h2 : (f_X9_isIn x3 0 3) = 0) => ?_) (fun (h2 : ¬ (f_X9_isIn x3 0 3) = 0) => ?_)
    · exact And.intro rfl (And.intro rfl ⟨by rw [f_X9_value, if_neg h1, if_pos h2] <;> rfl, rfl⟩)
    · refine zCl.use (c_X9_atFrame x1 x2 (2 + x3) σ) (Nat.le_of_ble_eq_true rfl) ?_
      rintro _ _ ⟨rfl, rfl⟩
      refine And.intro ((hp.2 h1) h2) ?_
      exact And.intro rfl (And.intro rfl ⟨by rw [f_X9_value, if_neg h1, if_neg h2] <;> rfl, rfl⟩)
def f_X9_where (x1 : Int32) (x2 : Int32) (σ : zS) : Int32 := if (f_X9_isFrame x1 x2 σ) = 0 then (-1) else (if x2 ≤ ((f_X9_frames x1 σ) - (f_X9_resident x1 σ)) then (-2) else (f_X9_windowOf x1 x2 σ))
def p_X9_where (x1 : Int32) (x2 : Int32) (σ : zS) : Prop := p_X9_isFrame x1 x2 σ ∧ (¬ (f_X9_isFrame x1 x2 σ) = 0 → (p_X9_frames x1 σ ∧ (p_X9_resident x1 σ ∧ (¬ x2 ≤ ((f_X9_frames x1 σ) - (f_X9_resident x1 σ)) → p_X9_windowOf x1 x2 σ))))
set_option maxRecDepth 100000 in
set_option maxHeartbeats 1000000 in
theorem c_X9_where {nx : Nat} (x1 : Int32) (x2 : Int32) (σ : zS) (hp : p_X9_where x1 x2 σ) : zCl 4 zall nx zall nx 275 [.inr (9, 57, 468), .inl x1, .inl x2] σ (fun v σ1 => v = some (.inl (f_X9_where x1 x2 σ)) ∧ σ1 = σ) := by
  refine zmeth (cd := kX9_where) [] 1000 (Nat.le_of_ble_eq_true rfl) rfl okX9_where (Nat.le_refl _) (Nat.le_of_ble_eq_true rfl) ?_
  refine zCl.use (c_X9_isFrame x1 x2 σ hp.1) (Nat.le_of_ble_eq_true rfl) ?_
  rintro _ _ ⟨rfl, rfl⟩
  refine And.intro (fun (h1 : ¬ (f_X9_isFrame x1 x2 σ) = 0) => ?_) (fun (h1 : (f_X9_isFrame x1 x2 σ) = 0) => ?_)
  · refine zCl.use (c_X9_frames x1 σ (hp.2 h1).1) (Nat.le_of_ble_eq_true rfl) ?_
    rintro _ _ ⟨rfl, rfl⟩
    refine zCl.use (c_X9_resident x1 σ (hp.2 h1).2.1) (Nat.le_of_ble_eq_true rfl) ?_
    rintro _ _ ⟨rfl, rfl⟩
    refine And.intro (fun (h2 : x2 ≤ ((f_X9_frames x1 σ) - (f_X9_resident x1 σ))) => ?_) (fun (h2 : ¬ x2 ≤ ((f_X9_frames x1 σ) - (f_X9_resident x1 σ))) => ?_)
    · exact And.intro rfl (And.intro rfl ⟨by rw [f_X9_where, if_neg h1, if_pos h2] <;> rfl, rfl⟩)
    · refine zCl.use (c_X9_windowOf x1 x2 σ ((hp.2 h1).2.2 h2)) (Nat.le_of_ble_eq_true rfl) ?_
      rintro _ _ ⟨rfl, rfl⟩
      exact And.intro rfl (And.intro rfl ⟨by rw [f_X9_where, if_neg h1, if_neg h2] <;> rfl, rfl⟩)
  · exact And.intro rfl (And.intro rfl ⟨by rw [f_X9_where, if_pos h1] <;> rfl, rfl⟩)
def f_X9_trap (x1 : Int32) (x2 : Int32) (σ : zS) : Int32 := if (f_X9_isIn x1 0 ((σ.1 469 11) - 1)) = 0 then (-1) else (if (f_X9_isIn x2 0 4) = 0 then (-1) else (σ.1 469 ((36 + (5 * x1)) + x2).toNatClampNeg))
def p_X9_trap (x1 : Int32) (x2 : Int32) (σ : zS) : Prop := ¬ (f_X9_isIn x1 0 ((σ.1 469 11) - 1)) = 0 → (¬ (f_X9_isIn x2 0 4) = 0 → vp_in ((36 + (5 * x1)) + x2) 14241)
set_option maxRecDepth 100000 in
set_option maxHeartbeats 1000000 in
theorem c_X9_trap {nx : Nat} (x1 : Int32) (x2 : Int32) (σ : zS) (hp : p_X9_trap x1 x2 σ) : zCl 2 zall nx zall nx 276 [.inr (9, 57, 468), .inl x1, .inl x2] σ (fun v σ1 => v = some (.inl (f_X9_trap x1 x2 σ)) ∧ σ1 = σ) := by
  refine zmeth (cd := kX9_trap) [] 1000 (Nat.le_of_ble_eq_true rfl) rfl okX9_trap (Nat.le_refl _) (Nat.le_of_ble_eq_true rfl) ?_
  refine And.intro (vp_in_iff.mpr (by decide)) ?_
  refine zCl.use (c_X9_isIn x1 0 ((σ.1 469 11) - 1) σ) (Nat.le_of_ble_eq_true rfl) ?_
  rintro _ _ ⟨rfl, rfl⟩
  refine And.intro (fun (h1 : (f_X9_isIn x1 0 ((σ.1 469 11) - 1)) = 0) => ?_) (fun (h1 : ¬ (f_X9_isIn x1 0 ((σ.1 469 11) - 1)) = 0) => ?_)
  · exact And.intro rfl (And.intro rfl ⟨by rw [f_X9_trap, if_pos h1] <;> rfl, rfl⟩)
  · refine zCl.use (c_X9_isIn x2 0 4 σ) (Nat.le_of_ble_eq_true rfl) ?_
    rintro _ _ ⟨rfl, rfl⟩
    refine And.intro (fun (h2 : (f_X9_isIn x2 0 4) = 0) => ?_) (fun (h2 : ¬ (f_X9_isIn x2 0 4) = 0) => ?_)
    · exact And.intro rfl (And.intro rfl ⟨by rw [f_X9_trap, if_neg h1, if_pos h2] <;> rfl, rfl⟩)
    · refine And.intro ((hp h1) h2) ?_
      exact And.intro rfl (And.intro rfl ⟨by rw [f_X9_trap, if_neg h1, if_neg h2] <;> rfl, rfl⟩)
def f_X9_camesBy (x1 : Int32) (x2 : Int32) (σ : zS) : Int32 := if x1 = 0 then ((((σ.1 469 1) - (σ.1 497 1)) * (σ.1 469 8)) + (((σ.1 469 2) - (σ.1 497 2)) * (σ.1 469 9))) else (if x1 = 1 then ((σ.1 469 1) - (σ.1 497 1)) else (if x1 = 2 then ((σ.1 469 2) - (σ.1 497 2)) else x2))
set_option maxRecDepth 100000 in
set_option maxHeartbeats 1000000 in
theorem c_X9_camesBy {nx : Nat} (x1 : Int32) (x2 : Int32) (σ : zS) : zCl 1 zall nx zall nx 280 [.inr (9, 57, 468), .inl x1, .inl x2] σ (fun v σ1 => v = some (.inl (f_X9_camesBy x1 x2 σ)) ∧ σ1 = σ) := by
  refine zmeth (cd := kX9_camesBy) [] 1000 (Nat.le_of_ble_eq_true rfl) rfl okX9_camesBy (Nat.le_refl _) (Nat.le_of_ble_eq_true rfl) ?_
  refine And.intro (vp_in_iff.mpr (by decide)) ?_
  refine And.intro (vp_in_iff.mpr (by decide)) ?_
  refine And.intro (vp_in_iff.mpr (by decide)) ?_
  refine And.intro (vp_in_iff.mpr (by decide)) ?_
  refine And.intro (fun (h1 : ¬ x1 = 0) => ?_) (fun (h1 : x1 = 0) => ?_)
  · refine And.intro (fun (h2 : ¬ x1 = 1) => ?_) (fun (h2 : x1 = 1) => ?_)
    · refine And.intro (fun (h3 : ¬ x1 = 2) => ?_) (fun (h3 : x1 = 2) => ?_)
      · exact And.intro rfl (And.intro rfl ⟨by rw [f_X9_camesBy, if_neg h1, if_neg h2, if_neg h3] <;> rfl, rfl⟩)
      · exact And.intro rfl (And.intro rfl ⟨by rw [f_X9_camesBy, if_neg h1, if_neg h2, if_pos h3] <;> rfl, rfl⟩)
    · exact And.intro rfl (And.intro rfl ⟨by rw [f_X9_camesBy, if_neg h1, if_pos h2] <;> rfl, rfl⟩)
  · refine And.intro (vp_in_iff.mpr (by decide)) ?_
    refine And.intro (vp_in_iff.mpr (by decide)) ?_
    exact And.intro rfl (And.intro rfl ⟨by rw [f_X9_camesBy, if_pos h1] <;> rfl, rfl⟩)
def f_X9_triedWay (x1 : Int32) : Int32 := if x1 = 0 then 0 else (if 3 ≤ x1 then (if x1 = 3 then 2 else 3) else 1)
set_option maxRecDepth 100000 in
set_option maxHeartbeats 1000000 in
theorem c_X9_triedWay {nx : Nat} (x1 : Int32) (σ : zS) : zCl 1 zall nx zall nx 282 [.inl x1] σ (fun v σ1 => v = some (.inl (f_X9_triedWay x1)) ∧ σ1 = σ) := by
  refine zmeth (cd := kX9_triedWay) [] 1000 (Nat.le_of_ble_eq_true rfl) rfl okX9_triedWay (Nat.le_refl _) (Nat.le_of_ble_eq_true rfl) ?_
  refine And.intro (fun (h1 : ¬ x1 = 0) => ?_) (fun (h1 : x1 = 0) => ?_)
  · refine And.intro (fun (h2 : 3 ≤ x1) => ?_) (fun (h2 : ¬ 3 ≤ x1) => ?_)
    · refine And.intro (fun (h3 : ¬ x1 = 3) => ?_) (fun (h3 : x1 = 3) => ?_)
      · exact And.intro rfl (And.intro rfl ⟨by rw [f_X9_triedWay, if_neg h1, if_pos h2, if_neg h3] <;> rfl, rfl⟩)
      · exact And.intro rfl (And.intro rfl ⟨by rw [f_X9_triedWay, if_neg h1, if_pos h2, if_pos h3] <;> rfl, rfl⟩)
    · exact And.intro rfl (And.intro rfl ⟨by rw [f_X9_triedWay, if_neg h1, if_neg h2] <;> rfl, rfl⟩)
  · exact And.intro rfl (And.intro rfl ⟨by rw [f_X9_triedWay, if_pos h1] <;> rfl, rfl⟩)
def f_X9_triedN (x1 : Int32) : Int32 := if x1 = 1 then 2 else (if x1 = 2 then 4 else (if x1 = 4 then 8 else 0))
set_option maxRecDepth 100000 in
set_option maxHeartbeats 1000000 in
theorem c_X9_triedN {nx : Nat} (x1 : Int32) (σ : zS) : zCl 1 zall nx zall nx 283 [.inl x1] σ (fun v σ1 => v = some (.inl (f_X9_triedN x1)) ∧ σ1 = σ) := by
  refine zmeth (cd := kX9_triedN) [] 1000 (Nat.le_of_ble_eq_true rfl) rfl okX9_triedN (Nat.le_refl _) (Nat.le_of_ble_eq_true rfl) ?_
  refine And.intro (fun (h1 : ¬ x1 = 1) => ?_) (fun (h1 : x1 = 1) => ?_)
  · refine And.intro (fun (h2 : ¬ x1 = 2) => ?_) (fun (h2 : x1 = 2) => ?_)
    · refine And.intro (fun (h3 : ¬ x1 = 4) => ?_) (fun (h3 : x1 = 4) => ?_)
      · exact And.intro rfl (And.intro rfl ⟨by rw [f_X9_triedN, if_neg h1, if_neg h2, if_neg h3] <;> rfl, rfl⟩)
      · exact And.intro rfl (And.intro rfl ⟨by rw [f_X9_triedN, if_neg h1, if_neg h2, if_pos h3] <;> rfl, rfl⟩)
    · exact And.intro rfl (And.intro rfl ⟨by rw [f_X9_triedN, if_neg h1, if_pos h2] <;> rfl, rfl⟩)
  · exact And.intro rfl (And.intro rfl ⟨by rw [f_X9_triedN, if_pos h1] <;> rfl, rfl⟩)
def f_X0_parameter (o : Nat) (x1 : Int32) (x2 : Int32) (σ : zS) : Int32 := if x1 < 1 then 0 else (if (σ.1 o 0) < x1 then 0 else (if x2 < 0 then 0 else (if x2 < 4 then (f_X8_at 240 (o + 1) (((x1 - 1) * 4) + x2) σ) else 0)))
def p_X0_parameter (o : Nat) (x1 : Int32) (x2 : Int32) (σ : zS) : Prop := ¬ x1 < 1 → (¬ (σ.1 o 0) < x1 → (¬ x2 < 0 → (x2 < 4 → p_X8_at 240 (o + 1) (((x1 - 1) * 4) + x2) σ)))
set_option maxRecDepth 100000 in
set_option maxHeartbeats 1000000 in
theorem c_X0_parameter {nx : Nat} (o : Nat) (x1 : Int32) (x2 : Int32) (σ : zS) (hp : p_X0_parameter o x1 x2 σ) : zCl 2 zall nx zall nx 4 [.inr (0, 9, o), .inl x1, .inl x2] σ (fun v σ1 => v = some (.inl (f_X0_parameter o x1 x2 σ)) ∧ σ1 = σ) := by
  refine zmeth (cd := kX0_parameter) [] 1000 (Nat.le_of_ble_eq_true rfl) rfl okX0_parameter (Nat.le_refl _) (Nat.le_of_ble_eq_true rfl) ?_
  refine And.intro (fun (h1 : x1 < 1) => ?_) (fun (h1 : ¬ x1 < 1) => ?_)
  · exact And.intro rfl (And.intro rfl ⟨by rw [f_X0_parameter, if_pos h1] <;> rfl, rfl⟩)
  · refine And.intro (fun (h2 : (σ.1 o 0) < x1) => ?_) (fun (h2 : ¬ (σ.1 o 0) < x1) => ?_)
    · exact And.intro rfl (And.intro rfl ⟨by rw [f_X0_parameter, if_neg h1, if_pos h2] <;> rfl, rfl⟩)
    · refine And.intro (fun (h3 : x2 < 0) => ?_) (fun (h3 : ¬ x2 < 0) => ?_)
      · exact And.intro rfl (And.intro rfl ⟨by rw [f_X0_parameter, if_neg h1, if_neg h2, if_pos h3] <;> rfl, rfl⟩)
      · refine And.intro (fun (h4 : x2 < 4) => ?_) (fun (h4 : ¬ x2 < 4) => ?_)
        · refine zCl.use (c_X8_at 240 (o + 1) (((x1 - 1) * 4) + x2) σ ((((hp h1) h2) h3) h4)) (Nat.le_of_ble_eq_true rfl) ?_
          rintro _ _ ⟨rfl, rfl⟩
          exact And.intro rfl (And.intro rfl ⟨by rw [f_X0_parameter, if_neg h1, if_neg h2, if_neg h3, if_pos h4] <;> rfl, rfl⟩)
        · exact And.intro rfl (And.intro rfl ⟨by rw [f_X0_parameter, if_neg h1, if_neg h2, if_neg h3, if_neg h4] <;> rfl, rfl⟩)
def f_X0_called (o : Nat) (q1 : Nat) (σ : zS) : Int32 := f_X8_at 400 (q1 + 6) (σ.1 o 1) σ
def p_X0_called (o : Nat) (q1 : Nat) (σ : zS) : Prop := p_X8_at 400 (q1 + 6) (σ.1 o 1) σ
set_option maxRecDepth 100000 in
set_option maxHeartbeats 1000000 in
theorem c_X0_called {nx : Nat} (o : Nat) (q1 : Nat) (σ : zS) (hp : p_X0_called o q1 σ) : zCl 2 zall nx zall nx 7 [.inr (0, 9, o), .inr (2, 16, q1)] σ (fun v σ1 => v = some (.inl (f_X0_called o q1 σ)) ∧ σ1 = σ) := by
  refine zmeth (cd := kX0_called) [] 1000 (Nat.le_of_ble_eq_true rfl) rfl okX0_called (Nat.le_refl _) (Nat.le_of_ble_eq_true rfl) ?_
  refine zCl.use (c_X8_at 400 (q1 + 6) (σ.1 o 1) σ hp) (Nat.le_of_ble_eq_true rfl) ?_
  rintro _ _ ⟨rfl, rfl⟩
  exact And.intro rfl (And.intro rfl ⟨by rw [f_X0_called] <;> rfl, rfl⟩)
def u_X0_computeOfTwo_1 (o : Nat) (x1 : Int32) (x2 : Int32) (σ : zS) : zS := s_X0_pop o σ
def u_X0_computeOfTwo_2 (o : Nat) (x1 : Int32) (x2 : Int32) (σ : zS) : zS := s_X0_pop o (u_X0_computeOfTwo_1 o x1 x2 σ)
def u_X0_computeOfTwo_3 (o : Nat) (x1 : Int32) (x2 : Int32) (σ : zS) : zS := s_X0_push o ((f_X0_pop o (u_X0_computeOfTwo_1 o x1 x2 σ)) + (f_X0_pop o σ)) (u_X0_computeOfTwo_2 o x1 x2 σ)
def u_X0_computeOfTwo_4 (o : Nat) (x1 : Int32) (x2 : Int32) (σ : zS) : zS := s_X0_push o ((f_X0_pop o (u_X0_computeOfTwo_1 o x1 x2 σ)) - (f_X0_pop o σ)) (u_X0_computeOfTwo_2 o x1 x2 σ)
def u_X0_computeOfTwo_5 (o : Nat) (x1 : Int32) (x2 : Int32) (σ : zS) : zS := s_X0_push o ((f_X0_pop o (u_X0_computeOfTwo_1 o x1 x2 σ)) * (f_X0_pop o σ)) (u_X0_computeOfTwo_2 o x1 x2 σ)
def u_X0_computeOfTwo_6 (o : Nat) (x1 : Int32) (x2 : Int32) (σ : zS) : zS := s_X0_push o ((f_X0_pop o (u_X0_computeOfTwo_1 o x1 x2 σ)) / (f_X0_pop o σ)) (u_X0_computeOfTwo_2 o x1 x2 σ)
def u_X0_computeOfTwo_7 (o : Nat) (x1 : Int32) (x2 : Int32) (σ : zS) : zS := s_X0_push o 0 (u_X0_computeOfTwo_2 o x1 x2 σ)
def u_X0_computeOfTwo_8 (o : Nat) (x1 : Int32) (x2 : Int32) (σ : zS) : zS := s_X0_push o ((f_X0_pop o (u_X0_computeOfTwo_1 o x1 x2 σ)) - (f_X0_pop o (u_X0_computeOfTwo_1 o x1 x2 σ)) / (f_X0_pop o σ) * (f_X0_pop o σ)) (u_X0_computeOfTwo_2 o x1 x2 σ)
def u_X0_computeOfTwo_9 (o : Nat) (x1 : Int32) (x2 : Int32) (σ : zS) : zS := s_X0_push o 0 (u_X0_computeOfTwo_2 o x1 x2 σ)
def u_X0_computeOfTwo_10 (o : Nat) (x1 : Int32) (x2 : Int32) (σ : zS) : zS := zuI (u_X0_computeOfTwo_2 o x1 x2 σ) o 1 x2
def u_X0_computeOfTwo_11 (o : Nat) (x1 : Int32) (x2 : Int32) (σ : zS) : zS := zuI (u_X0_computeOfTwo_2 o x1 x2 σ) o 1 ((u_X0_computeOfTwo_2 o x1 x2 σ).1 o 1)
def u_X0_computeOfTwo_12 (o : Nat) (x1 : Int32) (x2 : Int32) (σ : zS) : zS := zuI (u_X0_computeOfTwo_2 o x1 x2 σ) o 1 x2
def u_X0_computeOfTwo_13 (o : Nat) (x1 : Int32) (x2 : Int32) (σ : zS) : zS := zuI (u_X0_computeOfTwo_2 o x1 x2 σ) o 1 ((u_X0_computeOfTwo_2 o x1 x2 σ).1 o 1)
def u_X0_computeOfTwo_14 (o : Nat) (x1 : Int32) (x2 : Int32) (σ : zS) : zS := zuI (u_X0_computeOfTwo_2 o x1 x2 σ) o 1 x2
def u_X0_computeOfTwo_15 (o : Nat) (x1 : Int32) (x2 : Int32) (σ : zS) : zS := zuI (u_X0_computeOfTwo_2 o x1 x2 σ) o 1 ((u_X0_computeOfTwo_2 o x1 x2 σ).1 o 1)
def s_X0_computeOfTwo (o : Nat) (x1 : Int32) (x2 : Int32) (σ : zS) : zS := if x1 = 3 then (u_X0_computeOfTwo_3 o x1 x2 σ) else (if x1 = 4 then (u_X0_computeOfTwo_4 o x1 x2 σ) else (if x1 = 5 then (u_X0_computeOfTwo_5 o x1 x2 σ) else (if x1 = 6 then (if (f_X0_pop o σ) = 0 then (u_X0_computeOfTwo_7 o x1 x2 σ) else (u_X0_computeOfTwo_6 o x1 x2 σ)) else (if x1 = 7 then (if (f_X0_pop o σ) = 0 then (u_X0_computeOfTwo_9 o x1 x2 σ) else (u_X0_computeOfTwo_8 o x1 x2 σ)) else (if x1 = 8 then (if (f_X0_pop o σ) ≤ (f_X0_pop o (u_X0_computeOfTwo_1 o x1 x2 σ)) then (u_X0_computeOfTwo_10 o x1 x2 σ) else (u_X0_computeOfTwo_11 o x1 x2 σ)) else (if x1 = 9 then (if (f_X0_pop o (u_X0_computeOfTwo_1 o x1 x2 σ)) ≤ (f_X0_pop o σ) then (u_X0_computeOfTwo_12 o x1 x2 σ) else (u_X0_computeOfTwo_13 o x1 x2 σ)) else (if (f_X0_pop o (u_X0_computeOfTwo_1 o x1 x2 σ)) = (f_X0_pop o σ) then (u_X0_computeOfTwo_15 o x1 x2 σ) else (u_X0_computeOfTwo_14 o x1 x2 σ))))))))
def p_X0_computeOfTwo (o : Nat) (x1 : Int32) (x2 : Int32) (σ : zS) : Prop := p_X0_pop o σ ∧ (p_X0_pop o (u_X0_computeOfTwo_1 o x1 x2 σ) ∧ ((x1 = 3 → p_X0_push o ((f_X0_pop o (u_X0_computeOfTwo_1 o x1 x2 σ)) + (f_X0_pop o σ)) (u_X0_computeOfTwo_2 o x1 x2 σ)) ∧ (¬ x1 = 3 → ((x1 = 4 → p_X0_push o ((f_X0_pop o (u_X0_computeOfTwo_1 o x1 x2 σ)) - (f_X0_pop o σ)) (u_X0_computeOfTwo_2 o x1 x2 σ)) ∧ (¬ x1 = 4 → ((x1 = 5 → p_X0_push o ((f_X0_pop o (u_X0_computeOfTwo_1 o x1 x2 σ)) * (f_X0_pop o σ)) (u_X0_computeOfTwo_2 o x1 x2 σ)) ∧ (¬ x1 = 5 → ((x1 = 6 → ((¬ (f_X0_pop o σ) = 0 → (¬ (f_X0_pop o σ) = 0 ∧ p_X0_push o ((f_X0_pop o (u_X0_computeOfTwo_1 o x1 x2 σ)) / (f_X0_pop o σ)) (u_X0_computeOfTwo_2 o x1 x2 σ))) ∧ ((f_X0_pop o σ) = 0 → p_X0_push o 0 (u_X0_computeOfTwo_2 o x1 x2 σ)))) ∧ (¬ x1 = 6 → (x1 = 7 → ((¬ (f_X0_pop o σ) = 0 → (¬ (f_X0_pop o σ) = 0 ∧ p_X0_push o ((f_X0_pop o (u_X0_computeOfTwo_1 o x1 x2 σ)) - (f_X0_pop o (u_X0_computeOfTwo_1 o x1 x2 σ)) / (f_X0_pop o σ) * (f_X0_pop o σ)) (u_X0_computeOfTwo_2 o x1 x2 σ))) ∧ ((f_X0_pop o σ) = 0 → p_X0_push o 0 (u_X0_computeOfTwo_2 o x1 x2 σ)))))))))))))
set_option maxRecDepth 100000 in
set_option maxHeartbeats 1000000 in
theorem c_X0_computeOfTwo {nx : Nat} (o : Nat) (x1 : Int32) (x2 : Int32) (σ : zS) (hp : p_X0_computeOfTwo o x1 x2 σ) : zCl 2 zall nx zall nx 11 [.inr (0, 9, o), .inl x1, .inl x2] σ (fun v σ1 => v = none ∧ σ1 = s_X0_computeOfTwo o x1 x2 σ) := by
  refine zmeth (cd := kX0_computeOfTwo) [] 1000 (Nat.le_of_ble_eq_true rfl) rfl okX0_computeOfTwo (Nat.le_refl _) (Nat.le_of_ble_eq_true rfl) ?_
  refine zCl.use (c_X0_pop o σ hp.1) (Nat.le_of_ble_eq_true rfl) ?_
  rintro _ _ ⟨rfl, rfl⟩
  refine zCl.use (c_X0_pop o (u_X0_computeOfTwo_1 o x1 x2 σ) hp.2.1) (Nat.le_of_ble_eq_true rfl) ?_
  rintro _ _ ⟨rfl, rfl⟩
  refine And.intro (fun (h1 : x1 = 3) => ?_) (fun (h1 : ¬ x1 = 3) => ?_)
  · refine zCl.use (c_X0_push o ((f_X0_pop o (u_X0_computeOfTwo_1 o x1 x2 σ)) + (f_X0_pop o σ)) (u_X0_computeOfTwo_2 o x1 x2 σ) (hp.2.2.1 h1)) (Nat.le_of_ble_eq_true rfl) ?_
    rintro _ _ ⟨rfl, rfl⟩
    exact And.intro rfl (And.intro rfl ⟨rfl, by rw [s_X0_computeOfTwo, if_pos h1] <;> rfl⟩)
  · refine And.intro (fun (h2 : x1 = 4) => ?_) (fun (h2 : ¬ x1 = 4) => ?_)
    · refine zCl.use (c_X0_push o ((f_X0_pop o (u_X0_computeOfTwo_1 o x1 x2 σ)) - (f_X0_pop o σ)) (u_X0_computeOfTwo_2 o x1 x2 σ) ((hp.2.2.2 h1).1 h2)) (Nat.le_of_ble_eq_true rfl) ?_
      rintro _ _ ⟨rfl, rfl⟩
      exact And.intro rfl (And.intro rfl ⟨rfl, by rw [s_X0_computeOfTwo, if_neg h1, if_pos h2] <;> rfl⟩)
    · refine And.intro (fun (h3 : x1 = 5) => ?_) (fun (h3 : ¬ x1 = 5) => ?_)
      · refine zCl.use (c_X0_push o ((f_X0_pop o (u_X0_computeOfTwo_1 o x1 x2 σ)) * (f_X0_pop o σ)) (u_X0_computeOfTwo_2 o x1 x2 σ) (((hp.2.2.2 h1).2 h2).1 h3)) (Nat.le_of_ble_eq_true rfl) ?_
        rintro _ _ ⟨rfl, rfl⟩
        exact And.intro rfl (And.intro rfl ⟨rfl, by rw [s_X0_computeOfTwo, if_neg h1, if_neg h2, if_pos h3] <;> rfl⟩)
      · refine And.intro (fun (h4 : x1 = 6) => ?_) (fun (h4 : ¬ x1 = 6) => ?_)
        · refine And.intro (fun (h5 : ¬ (f_X0_pop o σ) = 0) => ?_) (fun (h5 : (f_X0_pop o σ) = 0) => ?_)
          · refine And.intro (((((hp.2.2.2 h1).2 h2).2 h3).1 h4).1 h5).1 ?_
            refine zCl.use (c_X0_push o ((f_X0_pop o (u_X0_computeOfTwo_1 o x1 x2 σ)) / (f_X0_pop o σ)) (u_X0_computeOfTwo_2 o x1 x2 σ) (((((hp.2.2.2 h1).2 h2).2 h3).1 h4).1 h5).2) (Nat.le_of_ble_eq_true rfl) ?_
            rintro _ _ ⟨rfl, rfl⟩
            exact And.intro rfl (And.intro rfl ⟨rfl, by rw [s_X0_computeOfTwo, if_neg h1, if_neg h2, if_neg h3, if_pos h4, if_neg h5] <;> rfl⟩)
          · refine zCl.use (c_X0_push o 0 (u_X0_computeOfTwo_2 o x1 x2 σ) (((((hp.2.2.2 h1).2 h2).2 h3).1 h4).2 h5)) (Nat.le_of_ble_eq_true rfl) ?_
            rintro _ _ ⟨rfl, rfl⟩
            exact And.intro rfl (And.intro rfl ⟨rfl, by rw [s_X0_computeOfTwo, if_neg h1, if_neg h2, if_neg h3, if_pos h4, if_pos h5] <;> rfl⟩)
        · refine And.intro (fun (h6 : x1 = 7) => ?_) (fun (h6 : ¬ x1 = 7) => ?_)
          · refine And.intro (fun (h7 : ¬ (f_X0_pop o σ) = 0) => ?_) (fun (h7 : (f_X0_pop o σ) = 0) => ?_)
            · refine And.intro ((((((hp.2.2.2 h1).2 h2).2 h3).2 h4) h6).1 h7).1 ?_
              refine zCl.use (c_X0_push o ((f_X0_pop o (u_X0_computeOfTwo_1 o x1 x2 σ)) - (f_X0_pop o (u_X0_computeOfTwo_1 o x1 x2 σ)) / (f_X0_pop o σ) * (f_X0_pop o σ)) (u_X0_computeOfTwo_2 o x1 x2 σ) ((((((hp.2.2.2 h1).2 h2).2 h3).2 h4) h6).1 h7).2) (Nat.le_of_ble_eq_true rfl) ?_
              rintro _ _ ⟨rfl, rfl⟩
              exact And.intro rfl (And.intro rfl ⟨rfl, by rw [s_X0_computeOfTwo, if_neg h1, if_neg h2, if_neg h3, if_neg h4, if_pos h6, if_neg h7] <;> rfl⟩)
            · refine zCl.use (c_X0_push o 0 (u_X0_computeOfTwo_2 o x1 x2 σ) ((((((hp.2.2.2 h1).2 h2).2 h3).2 h4) h6).2 h7)) (Nat.le_of_ble_eq_true rfl) ?_
              rintro _ _ ⟨rfl, rfl⟩
              exact And.intro rfl (And.intro rfl ⟨rfl, by rw [s_X0_computeOfTwo, if_neg h1, if_neg h2, if_neg h3, if_neg h4, if_pos h6, if_pos h7] <;> rfl⟩)
          · refine And.intro (fun (h8 : x1 = 8) => ?_) (fun (h8 : ¬ x1 = 8) => ?_)
            · refine And.intro (fun (h9 : (f_X0_pop o σ) ≤ (f_X0_pop o (u_X0_computeOfTwo_1 o x1 x2 σ))) => ?_) (fun (h9 : ¬ (f_X0_pop o σ) ≤ (f_X0_pop o (u_X0_computeOfTwo_1 o x1 x2 σ))) => ?_)
              · exact And.intro rfl (And.intro rfl ⟨rfl, by rw [s_X0_computeOfTwo, if_neg h1, if_neg h2, if_neg h3, if_neg h4, if_neg h6, if_pos h8, if_pos h9] <;> rfl⟩)
              · exact And.intro rfl (And.intro rfl ⟨rfl, by rw [s_X0_computeOfTwo, if_neg h1, if_neg h2, if_neg h3, if_neg h4, if_neg h6, if_pos h8, if_neg h9] <;> rfl⟩)
            · refine And.intro (fun (h10 : x1 = 9) => ?_) (fun (h10 : ¬ x1 = 9) => ?_)
              · refine And.intro (fun (h11 : (f_X0_pop o (u_X0_computeOfTwo_1 o x1 x2 σ)) ≤ (f_X0_pop o σ)) => ?_) (fun (h11 : ¬ (f_X0_pop o (u_X0_computeOfTwo_1 o x1 x2 σ)) ≤ (f_X0_pop o σ)) => ?_)
                · exact And.intro rfl (And.intro rfl ⟨rfl, by rw [s_X0_computeOfTwo, if_neg h1, if_neg h2, if_neg h3, if_neg h4, if_neg h6, if_neg h8, if_pos h10, if_pos h11] <;> rfl⟩)
                · exact And.intro rfl (And.intro rfl ⟨rfl, by rw [s_X0_computeOfTwo, if_neg h1, if_neg h2, if_neg h3, if_neg h4, if_neg h6, if_neg h8, if_pos h10, if_neg h11] <;> rfl⟩)
              · refine And.intro (fun (h12 : ¬ (f_X0_pop o (u_X0_computeOfTwo_1 o x1 x2 σ)) = (f_X0_pop o σ)) => ?_) (fun (h12 : (f_X0_pop o (u_X0_computeOfTwo_1 o x1 x2 σ)) = (f_X0_pop o σ)) => ?_)
                · exact And.intro rfl (And.intro rfl ⟨rfl, by rw [s_X0_computeOfTwo, if_neg h1, if_neg h2, if_neg h3, if_neg h4, if_neg h6, if_neg h8, if_neg h10, if_neg h12] <;> rfl⟩)
                · exact And.intro rfl (And.intro rfl ⟨rfl, by rw [s_X0_computeOfTwo, if_neg h1, if_neg h2, if_neg h3, if_neg h4, if_neg h6, if_neg h8, if_neg h10, if_pos h12] <;> rfl⟩)
def u_X2_emit_1 (o : Nat) (x1 : Int32) (x2 : Int32) (σ : zS) : zS := s_X8_put 400 (o + 5) (σ.1 o 9) x1 σ
def u_X2_emit_2 (o : Nat) (x1 : Int32) (x2 : Int32) (σ : zS) : zS := s_X8_put 400 (o + 6) (σ.1 o 9) x2 (u_X2_emit_1 o x1 x2 σ)
def u_X2_emit_3 (o : Nat) (x1 : Int32) (x2 : Int32) (σ : zS) : zS := zuI (u_X2_emit_2 o x1 x2 σ) o 9 (((u_X2_emit_2 o x1 x2 σ).1 o 9) + 1)
def f_X2_emit (o : Nat) (x1 : Int32) (x2 : Int32) (σ : zS) : Int32 := if 400 ≤ (σ.1 o 9) then (σ.1 o 9) else (σ.1 o 9)
def s_X2_emit (o : Nat) (x1 : Int32) (x2 : Int32) (σ : zS) : zS := if 400 ≤ (σ.1 o 9) then σ else (u_X2_emit_3 o x1 x2 σ)
def p_X2_emit (o : Nat) (x1 : Int32) (x2 : Int32) (σ : zS) : Prop := ¬ 400 ≤ (σ.1 o 9) → (p_X8_put 400 (o + 5) (σ.1 o 9) x1 σ ∧ p_X8_put 400 (o + 6) (σ.1 o 9) x2 (u_X2_emit_1 o x1 x2 σ))
set_option maxRecDepth 100000 in
set_option maxHeartbeats 1000000 in
theorem c_X2_emit {nx : Nat} (o : Nat) (x1 : Int32) (x2 : Int32) (σ : zS) (hp : p_X2_emit o x1 x2 σ) : zCl 2 zall nx zall nx 24 [.inr (2, 16, o), .inl x1, .inl x2] σ (fun v σ1 => v = some (.inl (f_X2_emit o x1 x2 σ)) ∧ σ1 = s_X2_emit o x1 x2 σ) := by
  refine zmeth (cd := kX2_emit) [] 1000 (Nat.le_of_ble_eq_true rfl) rfl okX2_emit (Nat.le_refl _) (Nat.le_of_ble_eq_true rfl) ?_
  refine And.intro (fun (h1 : 400 ≤ (σ.1 o 9)) => ?_) (fun (h1 : ¬ 400 ≤ (σ.1 o 9)) => ?_)
  · exact And.intro rfl (And.intro rfl ⟨by rw [f_X2_emit, if_pos h1] <;> rfl, by rw [s_X2_emit, if_pos h1] <;> rfl⟩)
  · refine zCl.use (c_X8_put 400 (o + 5) (σ.1 o 9) x1 σ (hp h1).1) (Nat.le_of_ble_eq_true rfl) ?_
    rintro _ _ ⟨rfl, rfl⟩
    refine zCl.use (c_X8_put 400 (o + 6) (σ.1 o 9) x2 (u_X2_emit_1 o x1 x2 σ) (hp h1).2) (Nat.le_of_ble_eq_true rfl) ?_
    rintro _ _ ⟨rfl, rfl⟩
    exact And.intro rfl (And.intro rfl ⟨by rw [f_X2_emit, if_neg h1] <;> rfl, by rw [s_X2_emit, if_neg h1] <;> rfl⟩)
def u_X4_noteTrap_1 (o : Nat) (x1 : Int32) (x2 : Int32) (x3 : Int32) (x4 : Int32) (σ : zS) : zS := s_X8_put 100 (o + 3) (((σ.1 o 10) - (σ.1 o 10) / 20 * 20) * 5) x1 σ
def u_X4_noteTrap_2 (o : Nat) (x1 : Int32) (x2 : Int32) (x3 : Int32) (x4 : Int32) (σ : zS) : zS := s_X8_put 100 (o + 3) ((((σ.1 o 10) - (σ.1 o 10) / 20 * 20) * 5) + 1) x2 (u_X4_noteTrap_1 o x1 x2 x3 x4 σ)
def u_X4_noteTrap_3 (o : Nat) (x1 : Int32) (x2 : Int32) (x3 : Int32) (x4 : Int32) (σ : zS) : zS := s_X8_put 100 (o + 3) ((((σ.1 o 10) - (σ.1 o 10) / 20 * 20) * 5) + 2) x3 (u_X4_noteTrap_2 o x1 x2 x3 x4 σ)
def u_X4_noteTrap_4 (o : Nat) (x1 : Int32) (x2 : Int32) (x3 : Int32) (x4 : Int32) (σ : zS) : zS := s_X8_put 100 (o + 3) ((((σ.1 o 10) - (σ.1 o 10) / 20 * 20) * 5) + 3) x4 (u_X4_noteTrap_3 o x1 x2 x3 x4 σ)
def u_X4_noteTrap_5 (o : Nat) (x1 : Int32) (x2 : Int32) (x3 : Int32) (x4 : Int32) (σ : zS) : zS := s_X8_put 100 (o + 3) ((((σ.1 o 10) - (σ.1 o 10) / 20 * 20) * 5) + 4) ((u_X4_noteTrap_4 o x1 x2 x3 x4 σ).1 o 9) (u_X4_noteTrap_4 o x1 x2 x3 x4 σ)
def u_X4_noteTrap_6 (o : Nat) (x1 : Int32) (x2 : Int32) (x3 : Int32) (x4 : Int32) (σ : zS) : zS := zuI (u_X4_noteTrap_5 o x1 x2 x3 x4 σ) o 10 (((u_X4_noteTrap_5 o x1 x2 x3 x4 σ).1 o 10) + 1)
def u_X4_noteTrap_7 (o : Nat) (x1 : Int32) (x2 : Int32) (x3 : Int32) (x4 : Int32) (σ : zS) : zS := zuI (u_X4_noteTrap_6 o x1 x2 x3 x4 σ) o 11 (((u_X4_noteTrap_6 o x1 x2 x3 x4 σ).1 o 11) + x3)
def s_X4_noteTrap (o : Nat) (x1 : Int32) (x2 : Int32) (x3 : Int32) (x4 : Int32) (σ : zS) : zS := (u_X4_noteTrap_7 o x1 x2 x3 x4 σ)
def p_X4_noteTrap (o : Nat) (x1 : Int32) (x2 : Int32) (x3 : Int32) (x4 : Int32) (σ : zS) : Prop := p_X8_put 100 (o + 3) (((σ.1 o 10) - (σ.1 o 10) / 20 * 20) * 5) x1 σ ∧ (p_X8_put 100 (o + 3) ((((σ.1 o 10) - (σ.1 o 10) / 20 * 20) * 5) + 1) x2 (u_X4_noteTrap_1 o x1 x2 x3 x4 σ) ∧ (p_X8_put 100 (o + 3) ((((σ.1 o 10) - (σ.1 o 10) / 20 * 20) * 5) + 2) x3 (u_X4_noteTrap_2 o x1 x2 x3 x4 σ) ∧ (p_X8_put 100 (o + 3) ((((σ.1 o 10) - (σ.1 o 10) / 20 * 20) * 5) + 3) x4 (u_X4_noteTrap_3 o x1 x2 x3 x4 σ) ∧ p_X8_put 100 (o + 3) ((((σ.1 o 10) - (σ.1 o 10) / 20 * 20) * 5) + 4) ((u_X4_noteTrap_4 o x1 x2 x3 x4 σ).1 o 9) (u_X4_noteTrap_4 o x1 x2 x3 x4 σ))))
set_option maxRecDepth 100000 in
set_option maxHeartbeats 1000000 in
theorem c_X4_noteTrap {nx : Nat} (o : Nat) (x1 : Int32) (x2 : Int32) (x3 : Int32) (x4 : Int32) (σ : zS) (hp : p_X4_noteTrap o x1 x2 x3 x4 σ) : zCl 2 zall nx zall nx 80 [.inr (4, 17, o), .inl x1, .inl x2, .inl x3, .inl x4] σ (fun v σ1 => v = none ∧ σ1 = s_X4_noteTrap o x1 x2 x3 x4 σ) := by
  refine zmeth (cd := kX4_noteTrap) [] 1000 (Nat.le_of_ble_eq_true rfl) rfl okX4_noteTrap (Nat.le_refl _) (Nat.le_of_ble_eq_true rfl) ?_
  refine And.intro (by decide) ?_
  refine zCl.use (c_X8_put 100 (o + 3) (((σ.1 o 10) - (σ.1 o 10) / 20 * 20) * 5) x1 σ hp.1) (Nat.le_of_ble_eq_true rfl) ?_
  rintro _ _ ⟨rfl, rfl⟩
  refine zCl.use (c_X8_put 100 (o + 3) ((((σ.1 o 10) - (σ.1 o 10) / 20 * 20) * 5) + 1) x2 (u_X4_noteTrap_1 o x1 x2 x3 x4 σ) hp.2.1) (Nat.le_of_ble_eq_true rfl) ?_
  rintro _ _ ⟨rfl, rfl⟩
  refine zCl.use (c_X8_put 100 (o + 3) ((((σ.1 o 10) - (σ.1 o 10) / 20 * 20) * 5) + 2) x3 (u_X4_noteTrap_2 o x1 x2 x3 x4 σ) hp.2.2.1) (Nat.le_of_ble_eq_true rfl) ?_
  rintro _ _ ⟨rfl, rfl⟩
  refine zCl.use (c_X8_put 100 (o + 3) ((((σ.1 o 10) - (σ.1 o 10) / 20 * 20) * 5) + 3) x4 (u_X4_noteTrap_3 o x1 x2 x3 x4 σ) hp.2.2.2.1) (Nat.le_of_ble_eq_true rfl) ?_
  rintro _ _ ⟨rfl, rfl⟩
  refine zCl.use (c_X8_put 100 (o + 3) ((((σ.1 o 10) - (σ.1 o 10) / 20 * 20) * 5) + 4) ((u_X4_noteTrap_4 o x1 x2 x3 x4 σ).1 o 9) (u_X4_noteTrap_4 o x1 x2 x3 x4 σ) hp.2.2.2.2) (Nat.le_of_ble_eq_true rfl) ?_
  rintro _ _ ⟨rfl, rfl⟩
  exact And.intro rfl (And.intro rfl ⟨rfl, by rw [s_X4_noteTrap] <;> rfl⟩)
def u_X0_compute_1 (o : Nat) (x1 : Int32) (x2 : Int32) (σ : zS) : zS := s_X0_push o x2 σ
def u_X0_compute_2 (o : Nat) (x1 : Int32) (x2 : Int32) (σ : zS) : zS := s_X0_push o (f_X0_parameter o (σ.1 o 0) x2 σ) σ
def u_X0_compute_3 (o : Nat) (x1 : Int32) (x2 : Int32) (σ : zS) : zS := s_X0_pop o σ
def u_X0_compute_4 (o : Nat) (x1 : Int32) (x2 : Int32) (σ : zS) : zS := s_X0_push o (-(f_X0_pop o σ)) (u_X0_compute_3 o x1 x2 σ)
def u_X0_compute_5 (o : Nat) (x1 : Int32) (x2 : Int32) (σ : zS) : zS := zuI σ o 1 x2
def u_X0_compute_6 (o : Nat) (x1 : Int32) (x2 : Int32) (σ : zS) : zS := s_X0_computeOfTwo o x1 x2 σ
def s_X0_compute (o : Nat) (x1 : Int32) (x2 : Int32) (σ : zS) : zS := if x1 = 0 then (u_X0_compute_1 o x1 x2 σ) else (if x1 = 1 then (u_X0_compute_2 o x1 x2 σ) else (if x1 = 2 then (u_X0_compute_4 o x1 x2 σ) else (if x1 = 11 then (u_X0_compute_5 o x1 x2 σ) else (u_X0_compute_6 o x1 x2 σ))))
def p_X0_compute (o : Nat) (x1 : Int32) (x2 : Int32) (σ : zS) : Prop := (x1 = 0 → p_X0_push o x2 σ) ∧ (¬ x1 = 0 → ((x1 = 1 → (p_X0_parameter o (σ.1 o 0) x2 σ ∧ p_X0_push o (f_X0_parameter o (σ.1 o 0) x2 σ) σ)) ∧ (¬ x1 = 1 → ((x1 = 2 → (p_X0_pop o σ ∧ p_X0_push o (-(f_X0_pop o σ)) (u_X0_compute_3 o x1 x2 σ))) ∧ (¬ x1 = 2 → (¬ x1 = 11 → p_X0_computeOfTwo o x1 x2 σ))))))
set_option maxRecDepth 100000 in
set_option maxHeartbeats 1000000 in
theorem c_X0_compute {nx : Nat} (o : Nat) (x1 : Int32) (x2 : Int32) (σ : zS) (hp : p_X0_compute o x1 x2 σ) : zCl 3 zall nx zall nx 10 [.inr (0, 9, o), .inl x1, .inl x2] σ (fun v σ1 => v = none ∧ σ1 = s_X0_compute o x1 x2 σ) := by
  refine zmeth (cd := kX0_compute) [] 1000 (Nat.le_of_ble_eq_true rfl) rfl okX0_compute (Nat.le_refl _) (Nat.le_of_ble_eq_true rfl) ?_
  refine And.intro (fun (h1 : x1 = 0) => ?_) (fun (h1 : ¬ x1 = 0) => ?_)
  · refine zCl.use (c_X0_push o x2 σ (hp.1 h1)) (Nat.le_of_ble_eq_true rfl) ?_
    rintro _ _ ⟨rfl, rfl⟩
    exact And.intro rfl (And.intro rfl ⟨rfl, by rw [s_X0_compute, if_pos h1] <;> rfl⟩)
  · refine And.intro (fun (h2 : x1 = 1) => ?_) (fun (h2 : ¬ x1 = 1) => ?_)
    · refine zCl.use (c_X0_parameter o (σ.1 o 0) x2 σ ((hp.2 h1).1 h2).1) (Nat.le_of_ble_eq_true rfl) ?_
      rintro _ _ ⟨rfl, rfl⟩
      refine zCl.use (c_X0_push o (f_X0_parameter o (σ.1 o 0) x2 σ) σ ((hp.2 h1).1 h2).2) (Nat.le_of_ble_eq_true rfl) ?_
      rintro _ _ ⟨rfl, rfl⟩
      exact And.intro rfl (And.intro rfl ⟨rfl, by rw [s_X0_compute, if_neg h1, if_pos h2] <;> rfl⟩)
    · refine And.intro (fun (h3 : x1 = 2) => ?_) (fun (h3 : ¬ x1 = 2) => ?_)
      · refine zCl.use (c_X0_pop o σ (((hp.2 h1).2 h2).1 h3).1) (Nat.le_of_ble_eq_true rfl) ?_
        rintro _ _ ⟨rfl, rfl⟩
        refine zCl.use (c_X0_push o (-(f_X0_pop o σ)) (u_X0_compute_3 o x1 x2 σ) (((hp.2 h1).2 h2).1 h3).2) (Nat.le_of_ble_eq_true rfl) ?_
        rintro _ _ ⟨rfl, rfl⟩
        exact And.intro rfl (And.intro rfl ⟨rfl, by rw [s_X0_compute, if_neg h1, if_neg h2, if_pos h3] <;> rfl⟩)
      · refine And.intro (fun (h4 : x1 = 11) => ?_) (fun (h4 : ¬ x1 = 11) => ?_)
        · exact And.intro rfl (And.intro rfl ⟨rfl, by rw [s_X0_compute, if_neg h1, if_neg h2, if_neg h3, if_pos h4] <;> rfl⟩)
        · refine zCl.use (c_X0_computeOfTwo o x1 x2 σ ((((hp.2 h1).2 h2).2 h3) h4)) (Nat.le_of_ble_eq_true rfl) ?_
          rintro _ _ ⟨rfl, rfl⟩
          exact And.intro rfl (And.intro rfl ⟨rfl, by rw [s_X0_compute, if_neg h1, if_neg h2, if_neg h3, if_neg h4] <;> rfl⟩)
