/-! printed by wip/whole/dec2.py -/
def u_X0_clear_1 (o : Nat) (σ : zS) : zS := zuI σ o 0 0
def u_X0_clear_2 (o : Nat) (σ : zS) : zS := zuI (u_X0_clear_1 o σ) o 1 0
def u_X0_clear_3 (o : Nat) (σ : zS) : zS := zuI (u_X0_clear_2 o σ) o 2 0
def u_X0_clear_4 (o : Nat) (σ : zS) : zS := zuI (u_X0_clear_3 o σ) o 3 0
def u_X0_clear_5 (o : Nat) (σ : zS) : zS := zuR (u_X0_clear_4 o σ) o 4 (1000000 + 1)
def s_X0_clear (o : Nat) (σ : zS) : zS := (u_X0_clear_5 o σ)
set_option maxRecDepth 100000 in
set_option maxHeartbeats 1000000 in
theorem c_X0_clear {cp : Nat → Bool} {nx : Nat} (o : Nat) (σ : zS) : zCl 1 cp nx cp nx 1 [.inr (0, 9, o)] σ (fun v σ1 => v = none ∧ σ1 = s_X0_clear o σ) := by
  refine zmeth (cd := kX0_clear) [] 1000 (Nat.le_of_ble_eq_true rfl) rfl okX0_clear (Nat.le_refl _) (Nat.le_of_ble_eq_true rfl) ?_
  refine And.intro (by decide) ?_
  exact And.intro rfl (And.intro rfl ⟨rfl, by rw [s_X0_clear] <;> rfl⟩)
def u_X0_foresee_1 (o : Nat) (n1 : Nat) (q1 : Nat) (σ : zS) : zS := zuR σ o 4 (q1 + 1)
def u_X0_foresee_2 (o : Nat) (n1 : Nat) (q1 : Nat) (σ : zS) : zS := zuI (u_X0_foresee_1 o n1 q1 σ) o 5 0
def s_X0_foresee (o : Nat) (n1 : Nat) (q1 : Nat) (σ : zS) : zS := (u_X0_foresee_2 o n1 q1 σ)
def p_X0_foresee (o : Nat) (n1 : Nat) (q1 : Nat) (σ : zS) : Prop := q1 < 1000003
set_option maxRecDepth 100000 in
set_option maxHeartbeats 1000000 in
theorem c_X0_foresee {cp : Nat → Bool} {nx : Nat} (o : Nat) (n1 : Nat) (q1 : Nat) (σ : zS) (hp : p_X0_foresee o n1 q1 σ) : zCl 1 cp nx cp nx 2 [.inr (0, 9, o), .inr (20, n1, q1)] σ (fun v σ1 => v = none ∧ σ1 = s_X0_foresee o n1 q1 σ) := by
  refine zmeth (cd := kX0_foresee) [] 1000 (Nat.le_of_ble_eq_true rfl) rfl okX0_foresee (Nat.le_refl _) (Nat.le_of_ble_eq_true rfl) ?_
  refine And.intro hp ?_
  exact And.intro rfl (And.intro rfl ⟨rfl, by rw [s_X0_foresee] <;> rfl⟩)
def u_X0_copyFrom_1 (o : Nat) (q1 : Nat) (σ : zS) : zS := zuI σ o 0 (σ.1 q1 0)
def u_X0_copyFrom_2 (o : Nat) (q1 : Nat) (σ : zS) : zS := zuI (u_X0_copyFrom_1 o q1 σ) o 1 ((u_X0_copyFrom_1 o q1 σ).1 q1 1)
def u_X0_copyFrom_3 (o : Nat) (q1 : Nat) (σ : zS) : zS := zuI (u_X0_copyFrom_2 o q1 σ) o 2 ((u_X0_copyFrom_2 o q1 σ).1 q1 2)
def u_X0_copyFrom_4 (o : Nat) (q1 : Nat) (σ : zS) : zS := zuI (u_X0_copyFrom_3 o q1 σ) o 3 ((u_X0_copyFrom_3 o q1 σ).1 q1 3)
def u_X0_copyFrom_5 (o : Nat) (q1 : Nat) (σ : zS) : zS := zuR (u_X0_copyFrom_4 o q1 σ) o 4 (1000000 + 1)
def u_X0_copyFrom_6 (o : Nat) (q1 : Nat) (σ : zS) : zS := zcpy (u_X0_copyFrom_5 o q1 σ) (q1 + 1) (o + 1) 0 0 (if 240 < (((u_X0_copyFrom_5 o q1 σ).1 o 0) * 4) then 240 else (((u_X0_copyFrom_5 o q1 σ).1 o 0) * 4)).toNatClampNeg
def u_X0_copyFrom_7 (o : Nat) (q1 : Nat) (σ : zS) : zS := zcpy (u_X0_copyFrom_6 o q1 σ) (q1 + 2) (o + 2) 0 0 (if 60 < ((u_X0_copyFrom_6 o q1 σ).1 o 0) then 60 else ((u_X0_copyFrom_6 o q1 σ).1 o 0)).toNatClampNeg
def u_X0_copyFrom_8 (o : Nat) (q1 : Nat) (σ : zS) : zS := zcpy (u_X0_copyFrom_7 o q1 σ) (q1 + 3) (o + 3) 0 0 (if 1680 < ((u_X0_copyFrom_7 o q1 σ).1 o 2) then 1680 else ((u_X0_copyFrom_7 o q1 σ).1 o 2)).toNatClampNeg
def s_X0_copyFrom (o : Nat) (q1 : Nat) (σ : zS) : zS := (u_X0_copyFrom_8 o q1 σ)
def p_X0_copyFrom (o : Nat) (q1 : Nat) (σ : zS) : Prop := ¬ (if 240 < (((u_X0_copyFrom_5 o q1 σ).1 o 0) * 4) then 240 else (((u_X0_copyFrom_5 o q1 σ).1 o 0) * 4)) < 0 ∧ (0 + (if 240 < (((u_X0_copyFrom_5 o q1 σ).1 o 0) * 4) then 240 else (((u_X0_copyFrom_5 o q1 σ).1 o 0) * 4)).toNatClampNeg ≤ 240 ∧ (¬ (if 60 < ((u_X0_copyFrom_6 o q1 σ).1 o 0) then 60 else ((u_X0_copyFrom_6 o q1 σ).1 o 0)) < 0 ∧ (0 + (if 60 < ((u_X0_copyFrom_6 o q1 σ).1 o 0) then 60 else ((u_X0_copyFrom_6 o q1 σ).1 o 0)).toNatClampNeg ≤ 60 ∧ (¬ (if 1680 < ((u_X0_copyFrom_7 o q1 σ).1 o 2) then 1680 else ((u_X0_copyFrom_7 o q1 σ).1 o 2)) < 0 ∧ 0 + (if 1680 < ((u_X0_copyFrom_7 o q1 σ).1 o 2) then 1680 else ((u_X0_copyFrom_7 o q1 σ).1 o 2)).toNatClampNeg ≤ 1680))))
set_option maxRecDepth 100000 in
set_option maxHeartbeats 1000000 in
theorem c_X0_copyFrom {nx : Nat} (o : Nat) (q1 : Nat) (σ : zS) (hp : p_X0_copyFrom o q1 σ) : zCl 1 zall nx zall nx 3 [.inr (0, 9, o), .inr (0, 9, q1)] σ (fun v σ1 => v = none ∧ σ1 = s_X0_copyFrom o q1 σ) := by
  refine zmeth (cd := kX0_copyFrom) [] 1000 (Nat.le_of_ble_eq_true rfl) rfl okX0_copyFrom (Nat.le_refl _) (Nat.le_of_ble_eq_true rfl) ?_
  refine And.intro (by decide) ?_
  refine And.intro (by decide) ?_
  refine And.intro (by decide) ?_
  refine And.intro hp.1 ?_
  refine And.intro hp.2.1 ?_
  refine And.intro hp.2.1 ?_
  refine And.intro (by decide) ?_
  refine And.intro (by decide) ?_
  refine And.intro hp.2.2.1 ?_
  refine And.intro hp.2.2.2.1 ?_
  refine And.intro hp.2.2.2.1 ?_
  refine And.intro (by decide) ?_
  refine And.intro (by decide) ?_
  refine And.intro hp.2.2.2.2.1 ?_
  refine And.intro hp.2.2.2.2.2 ?_
  refine And.intro hp.2.2.2.2.2 ?_
  exact And.intro rfl (And.intro rfl ⟨rfl, by rw [s_X0_copyFrom] <;> rfl⟩)
def u_X0_push_1 (o : Nat) (x1 : Int32) (σ : zS) : zS := zuI σ (o + 3) (σ.1 o 2).toNatClampNeg x1
def u_X0_push_2 (o : Nat) (x1 : Int32) (σ : zS) : zS := zuI (u_X0_push_1 o x1 σ) o 2 (((u_X0_push_1 o x1 σ).1 o 2) + 1)
def s_X0_push (o : Nat) (x1 : Int32) (σ : zS) : zS := if (σ.1 o 2) < 0 then σ else (if 1680 ≤ (σ.1 o 2) then σ else (u_X0_push_2 o x1 σ))
def p_X0_push (o : Nat) (x1 : Int32) (σ : zS) : Prop := ¬ (σ.1 o 2) < 0 → (¬ 1680 ≤ (σ.1 o 2) → vp_in (σ.1 o 2) 1680)
set_option maxRecDepth 100000 in
set_option maxHeartbeats 1000000 in
theorem c_X0_push {nx : Nat} (o : Nat) (x1 : Int32) (σ : zS) (hp : p_X0_push o x1 σ) : zCl 1 zall nx zall nx 12 [.inr (0, 9, o), .inl x1] σ (fun v σ1 => v = none ∧ σ1 = s_X0_push o x1 σ) := by
  refine zmeth (cd := kX0_push) [] 1000 (Nat.le_of_ble_eq_true rfl) rfl okX0_push (Nat.le_refl _) (Nat.le_of_ble_eq_true rfl) ?_
  refine And.intro (fun (h1 : (σ.1 o 2) < 0) => ?_) (fun (h1 : ¬ (σ.1 o 2) < 0) => ?_)
  · exact And.intro rfl (And.intro rfl ⟨rfl, by rw [s_X0_push, if_pos h1] <;> rfl⟩)
  · refine And.intro (fun (h2 : 1680 ≤ (σ.1 o 2)) => ?_) (fun (h2 : ¬ 1680 ≤ (σ.1 o 2)) => ?_)
    · exact And.intro rfl (And.intro rfl ⟨rfl, by rw [s_X0_push, if_neg h1, if_pos h2] <;> rfl⟩)
    · refine And.intro ((hp h1) h2) ?_
      exact And.intro rfl (And.intro rfl ⟨rfl, by rw [s_X0_push, if_neg h1, if_neg h2] <;> rfl⟩)
def u_X0_pop_1 (o : Nat) (σ : zS) : zS := zuI σ o 2 ((σ.1 o 2) - 1)
def r_X0_pop (o : Nat) (σ : zS) : Int32 × zS := if (σ.1 o 2) ≤ 0 then (0, σ) else (if (σ.1 o 2) ≤ 1680 then ((u_X0_pop_1 o σ).1 (o + 3) ((u_X0_pop_1 o σ).1 o 2).toNatClampNeg, (u_X0_pop_1 o σ)) else (0, σ))
def p_X0_pop (o : Nat) (σ : zS) : Prop := ¬ (σ.1 o 2) ≤ 0 → ((σ.1 o 2) ≤ 1680 → vp_in ((u_X0_pop_1 o σ).1 o 2) 1680)
set_option maxRecDepth 100000 in
set_option maxHeartbeats 1000000 in
theorem c_X0_pop {nx : Nat} (o : Nat) (σ : zS) (hp : p_X0_pop o σ) : zCl 1 zall nx zall nx 13 [.inr (0, 9, o)] σ (fun v σ1 => v = some (.inl ((r_X0_pop o σ).1)) ∧ σ1 = (r_X0_pop o σ).2) := by
  refine zmeth (cd := kX0_pop) [] 1000 (Nat.le_of_ble_eq_true rfl) rfl okX0_pop (Nat.le_refl _) (Nat.le_of_ble_eq_true rfl) ?_
  refine And.intro (fun (h1 : (σ.1 o 2) ≤ 0) => ?_) (fun (h1 : ¬ (σ.1 o 2) ≤ 0) => ?_)
  · exact And.intro rfl (And.intro rfl ⟨by rw [r_X0_pop, if_pos h1] <;> rfl, by rw [r_X0_pop, if_pos h1] <;> rfl⟩)
  · refine And.intro (fun (h2 : (σ.1 o 2) ≤ 1680) => ?_) (fun (h2 : ¬ (σ.1 o 2) ≤ 1680) => ?_)
    · refine And.intro ((hp h1) h2) ?_
      exact And.intro rfl (And.intro rfl ⟨by rw [r_X0_pop, if_neg h1, if_pos h2] <;> rfl, by rw [r_X0_pop, if_neg h1, if_pos h2] <;> rfl⟩)
    · exact And.intro rfl (And.intro rfl ⟨by rw [r_X0_pop, if_neg h1, if_neg h2] <;> rfl, by rw [r_X0_pop, if_neg h1, if_neg h2] <;> rfl⟩)
def f_X1_now (σ : zS) : Nat := if (σ.1 30 1) < 0 then (σ.2 31 0 - 1) else (if 13 ≤ (σ.1 30 1) then (σ.2 31 0 - 1) else (σ.2 31 (σ.1 30 1).toNatClampNeg - 1))
def p_X1_now (σ : zS) : Prop := ((σ.1 30 1) < 0 → ((σ.2 31 0 ≠ 0 ∧ zlay (σ.2 31 0 - 1) = (4, 17)))) ∧ (¬ (σ.1 30 1) < 0 → ((13 ≤ (σ.1 30 1) → ((σ.2 31 0 ≠ 0 ∧ zlay (σ.2 31 0 - 1) = (4, 17)))) ∧ (¬ 13 ≤ (σ.1 30 1) → (vp_in (σ.1 30 1) 13 ∧ ((σ.2 31 (σ.1 30 1).toNatClampNeg ≠ 0 ∧ zlay (σ.2 31 (σ.1 30 1).toNatClampNeg - 1) = (4, 17)))))))
set_option maxRecDepth 100000 in
set_option maxHeartbeats 1000000 in
theorem c_X1_now {nx : Nat} (σ : zS) (hp : p_X1_now σ) : zCl 1 zall nx zall nx 17 [.inr (1, 3, 30)] σ (fun v σ1 => v = some (.inr (4, 17, (f_X1_now σ))) ∧ σ1 = σ) := by
  refine zmeth (cd := kX1_now) [] 1000 (Nat.le_of_ble_eq_true rfl) rfl okX1_now (Nat.le_refl _) (Nat.le_of_ble_eq_true rfl) ?_
  refine And.intro (fun (h1 : (σ.1 30 1) < 0) => ?_) (fun (h1 : ¬ (σ.1 30 1) < 0) => ?_)
  · refine And.intro (vp_in_iff.mpr (by decide)) ?_
    refine And.intro (hp.1 h1).1 (fun q902 (e2 : σ.2 31 0 = q902 + 1) => ?_)
    have g2 : q902 = (σ.2 31 0 - 1) := by omega
    subst g2
    rw [(hp.1 h1).2]
    exact And.intro rfl (And.intro rfl ⟨by rw [f_X1_now, if_pos h1] <;> rfl, rfl⟩)
  · refine And.intro (fun (h3 : 13 ≤ (σ.1 30 1)) => ?_) (fun (h3 : ¬ 13 ≤ (σ.1 30 1)) => ?_)
    · refine And.intro (vp_in_iff.mpr (by decide)) ?_
      refine And.intro ((hp.2 h1).1 h3).1 (fun q904 (e4 : σ.2 31 0 = q904 + 1) => ?_)
      have g4 : q904 = (σ.2 31 0 - 1) := by omega
      subst g4
      rw [((hp.2 h1).1 h3).2]
      exact And.intro rfl (And.intro rfl ⟨by rw [f_X1_now, if_neg h1, if_pos h3] <;> rfl, rfl⟩)
    · refine And.intro ((hp.2 h1).2 h3).1 ?_
      refine And.intro ((hp.2 h1).2 h3).2.1 (fun q905 (e5 : σ.2 31 (σ.1 30 1).toNatClampNeg = q905 + 1) => ?_)
      have g5 : q905 = (σ.2 31 (σ.1 30 1).toNatClampNeg - 1) := by omega
      subst g5
      rw [((hp.2 h1).2 h3).2.2]
      exact And.intro rfl (And.intro rfl ⟨by rw [f_X1_now, if_neg h1, if_neg h3] <;> rfl, rfl⟩)
def u_X1_stepBack_1 (σ : zS) : zS := zuI σ 30 1 ((σ.1 30 1) - 1)
def r_X1_stepBack (σ : zS) : Int32 × zS := if (σ.1 30 1) = 0 then (0, σ) else (1, (u_X1_stepBack_1 σ))
set_option maxRecDepth 100000 in
set_option maxHeartbeats 1000000 in
theorem c_X1_stepBack {cp : Nat → Bool} {nx : Nat} (σ : zS) : zCl 1 cp nx cp nx 19 [.inr (1, 3, 30)] σ (fun v σ1 => v = some (.inl ((r_X1_stepBack σ).1)) ∧ σ1 = (r_X1_stepBack σ).2) := by
  refine zmeth (cd := kX1_stepBack) [] 1000 (Nat.le_of_ble_eq_true rfl) rfl okX1_stepBack (Nat.le_refl _) (Nat.le_of_ble_eq_true rfl) ?_
  refine And.intro (fun (h1 : ¬ (σ.1 30 1) = 0) => ?_) (fun (h1 : (σ.1 30 1) = 0) => ?_)
  · exact And.intro rfl (And.intro rfl (And.intro (Or.inr rfl) ⟨by rw [r_X1_stepBack, if_neg h1] <;> rfl, by rw [r_X1_stepBack, if_neg h1] <;> rfl⟩))
  · exact And.intro rfl (And.intro rfl (And.intro (Or.inl rfl) ⟨by rw [r_X1_stepBack, if_pos h1] <;> rfl, by rw [r_X1_stepBack, if_pos h1] <;> rfl⟩))
theorem b_X1_stepBack {σ : zS} : (r_X1_stepBack σ).1 = 0 ∨ (r_X1_stepBack σ).1 = 1 := by
  unfold r_X1_stepBack
  (repeat' split) <;> first | exact Or.inl rfl | exact Or.inr rfl
def u_X1_stepOn_1 (σ : zS) : zS := zuI σ 30 1 ((σ.1 30 1) + 1)
def r_X1_stepOn (σ : zS) : Int32 × zS := if (σ.1 30 1) = (σ.1 30 2) then (0, σ) else (1, (u_X1_stepOn_1 σ))
set_option maxRecDepth 100000 in
set_option maxHeartbeats 1000000 in
theorem c_X1_stepOn {cp : Nat → Bool} {nx : Nat} (σ : zS) : zCl 1 cp nx cp nx 20 [.inr (1, 3, 30)] σ (fun v σ1 => v = some (.inl ((r_X1_stepOn σ).1)) ∧ σ1 = (r_X1_stepOn σ).2) := by
  refine zmeth (cd := kX1_stepOn) [] 1000 (Nat.le_of_ble_eq_true rfl) rfl okX1_stepOn (Nat.le_refl _) (Nat.le_of_ble_eq_true rfl) ?_
  refine And.intro (fun (h1 : ¬ (σ.1 30 1) = (σ.1 30 2)) => ?_) (fun (h1 : (σ.1 30 1) = (σ.1 30 2)) => ?_)
  · exact And.intro rfl (And.intro rfl (And.intro (Or.inr rfl) ⟨by rw [r_X1_stepOn, if_neg h1] <;> rfl, by rw [r_X1_stepOn, if_neg h1] <;> rfl⟩))
  · exact And.intro rfl (And.intro rfl (And.intro (Or.inl rfl) ⟨by rw [r_X1_stepOn, if_pos h1] <;> rfl, by rw [r_X1_stepOn, if_pos h1] <;> rfl⟩))
theorem b_X1_stepOn {σ : zS} : (r_X1_stepOn σ).1 = 0 ∨ (r_X1_stepOn σ).1 = 1 := by
  unfold r_X1_stepOn
  (repeat' split) <;> first | exact Or.inl rfl | exact Or.inr rfl
def u_X1_dropOldest_h0_1 (N : Nat) (a1 : Nat) (v2 : Int32) (σ : zS) : zS := zuR σ 31 12 (a1 + 1)
def u_X1_dropOldest_h0_2 (N : Nat) (a1 : Nat) (v2 : Int32) (σ : zS) : zS := zuR σ 31 (v2).toNatClampNeg ((σ.2 31 (v2 + 1).toNatClampNeg - 1) + 1)
def l_X1_dropOldest (N : Nat) : Nat → Nat → Int32 → zS → zS
  | 0, _, _, σ => σ
  | n + 1, a1, v2, σ => if 13 ≤ (v2 + 1) then (u_X1_dropOldest_h0_1 N a1 v2 σ) else (l_X1_dropOldest N n a1 (v2 + 1) (u_X1_dropOldest_h0_2 N a1 v2 σ))
def q_X1_dropOldest (N : Nat) : Nat → Nat → Int32 → zS → Prop
  | 0, _, _, _ => False
  | n + 1, a1, v2, σ => ¬ 13 ≤ (v2 + 1) → (vp_in (v2 + 1) 13 ∧ ((σ.2 31 (v2 + 1).toNatClampNeg ≠ 0 ∧ zlay (σ.2 31 (v2 + 1).toNatClampNeg - 1) = (4, 17)) ∧ (vp_in v2 13 ∧ q_X1_dropOldest N n a1 (v2 + 1) (u_X1_dropOldest_h0_2 N a1 v2 σ))))
set_option maxRecDepth 100000 in
set_option maxHeartbeats 1000000 in
theorem w_X1_dropOldest {nx : Nat} (N : Nat) : ∀ n : Nat, (∀ (a1 : Nat) (v2 : Int32) (σ : zS), q_X1_dropOldest N n a1 v2 σ → zWp 1 zall nx 21 (fun v σ1 => v = none ∧ σ1 = l_X1_dropOldest N n a1 v2 σ) zall nx 9 [some (.inr (1, 3, 30)), some (.inr (4, 17, a1)), some (.inl v2)] [] σ) := by
  intro n
  induction n with
  | zero => exact fun _ _ _ h => h.elim
  | succ n ih =>
    intro a1 v2 σ hp
    rw [q_X1_dropOldest] at hp
    refine zvc_sound (cd := kX1_dropOldest) (cs := [9]) rfl okX1_dropOldest 1000 _ _ 9 (zseek kX1_dropOldest 9) _ _ _ zseek_sub ?_
    refine And.intro (fun (h1 : 13 ≤ (v2 + 1)) => ?_) (fun (h1 : ¬ 13 ≤ (v2 + 1)) => ?_)
    · refine And.intro (vp_in_iff.mpr (by decide)) ?_
      exact And.intro rfl (And.intro rfl ⟨rfl, by rw [l_X1_dropOldest, if_pos h1] <;> rfl⟩)
    · refine And.intro (hp h1).1 ?_
      refine And.intro (hp h1).2.1.1 (fun q902 (e2 : σ.2 31 (v2 + 1).toNatClampNeg = q902 + 1) => ?_)
      have g2 : q902 = (σ.2 31 (v2 + 1).toNatClampNeg - 1) := by omega
      subst g2
      rw [(hp h1).2.1.2]
      refine And.intro (hp h1).2.2.1 ?_
      refine zWp.use (ih a1 (v2 + 1) (u_X1_dropOldest_h0_2 N a1 v2 σ) (hp h1).2.2.2) (And.intro rfl (And.intro rfl (And.intro rfl trivial))) (fun vy σy hy => ?_)
      rw [l_X1_dropOldest, if_neg h1]; exact hy
def s_X1_dropOldest (N : Nat) (σ : zS) : zS := l_X1_dropOldest N N (σ.2 31 0 - 1) 0 σ
def p_X1_dropOldest (N : Nat) (σ : zS) : Prop := (σ.2 31 0 ≠ 0 ∧ zlay (σ.2 31 0 - 1) = (4, 17)) ∧ q_X1_dropOldest N N (σ.2 31 0 - 1) 0 σ
set_option maxRecDepth 100000 in
set_option maxHeartbeats 1000000 in
theorem c_X1_dropOldest {nx : Nat} (N : Nat) (σ : zS) (hp : p_X1_dropOldest N σ) : zCl 1 zall nx zall nx 21 [.inr (1, 3, 30)] σ (fun v σ1 => v = none ∧ σ1 = s_X1_dropOldest N σ) := by
  refine zmeth (cd := kX1_dropOldest) [9] 1000 (Nat.le_of_ble_eq_true rfl) rfl okX1_dropOldest (Nat.le_refl _) (Nat.le_of_ble_eq_true rfl) ?_
  refine And.intro (vp_in_iff.mpr (by decide)) ?_
  refine And.intro hp.1.1 (fun q901 (e1 : σ.2 31 0 = q901 + 1) => ?_)
  have g1 : q901 = (σ.2 31 0 - 1) := by omega
  subst g1
  rw [hp.1.2]
  refine zWp.use ((w_X1_dropOldest N N) (σ.2 31 0 - 1) 0 σ hp.2) (And.intro rfl (And.intro rfl (And.intro rfl trivial))) (fun vy σy hy => ?_)
  rw [s_X1_dropOldest]; exact hy
def u_X3_refuse_1 (x1 : Int32) (x2 : Int32) (σ : zS) : zS := zuI σ 2 2 x1
def u_X3_refuse_2 (x1 : Int32) (x2 : Int32) (σ : zS) : zS := zuI (u_X3_refuse_1 x1 x2 σ) 2 3 x2
def r_X3_refuse (x1 : Int32) (x2 : Int32) (σ : zS) : Int32 × zS := (0, (u_X3_refuse_2 x1 x2 σ))
set_option maxRecDepth 100000 in
set_option maxHeartbeats 1000000 in
theorem c_X3_refuse {cp : Nat → Bool} {nx : Nat} (x1 : Int32) (x2 : Int32) (σ : zS) : zCl 1 cp nx cp nx 27 [.inr (3, 12, 2), .inl x1, .inl x2] σ (fun v σ1 => v = some (.inl ((r_X3_refuse x1 x2 σ).1)) ∧ σ1 = (r_X3_refuse x1 x2 σ).2) := by
  refine zmeth (cd := kX3_refuse) [] 1000 (Nat.le_of_ble_eq_true rfl) rfl okX3_refuse (Nat.le_refl _) (Nat.le_of_ble_eq_true rfl) ?_
  exact And.intro rfl (And.intro rfl (And.intro (Or.inl rfl) ⟨by rw [r_X3_refuse] <;> rfl, by rw [r_X3_refuse] <;> rfl⟩))
theorem b_X3_refuse {x1 : Int32} {x2 : Int32} {σ : zS} : (r_X3_refuse x1 x2 σ).1 = 0 ∨ (r_X3_refuse x1 x2 σ).1 = 1 := by
  unfold r_X3_refuse
  (repeat' split) <;> first | exact Or.inl rfl | exact Or.inr rfl
def u_X3_refuseToken_1 (σ : zS) : zS := (r_X3_refuse 1 (σ.1 3 3) σ).2
def r_X3_refuseToken (σ : zS) : Int32 × zS := ((r_X3_refuse 1 (σ.1 3 3) σ).1, (u_X3_refuseToken_1 σ))
set_option maxRecDepth 100000 in
set_option maxHeartbeats 1000000 in
theorem c_X3_refuseToken {nx : Nat} (σ : zS) : zCl 2 zall nx zall nx 28 [.inr (3, 12, 2)] σ (fun v σ1 => v = some (.inl ((r_X3_refuseToken σ).1)) ∧ σ1 = (r_X3_refuseToken σ).2) := by
  refine zmeth (cd := kX3_refuseToken) [] 1000 (Nat.le_of_ble_eq_true rfl) rfl okX3_refuseToken (Nat.le_refl _) (Nat.le_of_ble_eq_true rfl) ?_
  refine zCl.use (c_X3_refuse 1 (σ.1 3 3) σ) (Nat.le_of_ble_eq_true rfl) ?_
  rintro _ σz ⟨rfl, hz⟩
  subst σz
  exact And.intro rfl (And.intro rfl (And.intro b_X3_refuse ⟨by rw [r_X3_refuseToken] <;> rfl, by rw [r_X3_refuseToken] <;> rfl⟩))
theorem b_X3_refuseToken {σ : zS} : (r_X3_refuseToken σ).1 = 0 ∨ (r_X3_refuseToken σ).1 = 1 := by
  unfold r_X3_refuseToken
  (repeat' split) <;> first | exact Or.inl rfl | exact Or.inr rfl | exact b_X3_refuse
def f_X4_taskAt (o : Nat) (x1 : Int32) (σ : zS) : Nat := if x1 < 0 then (σ.2 (o + 4) 0 - 1) else (if 4 ≤ x1 then (σ.2 (o + 4) 0 - 1) else (σ.2 (o + 4) (x1).toNatClampNeg - 1))
def p_X4_taskAt (o : Nat) (x1 : Int32) (σ : zS) : Prop := (x1 < 0 → ((σ.2 (o + 4) 0 ≠ 0 ∧ zlay (σ.2 (o + 4) 0 - 1) = (5, 12)))) ∧ (¬ x1 < 0 → ((4 ≤ x1 → ((σ.2 (o + 4) 0 ≠ 0 ∧ zlay (σ.2 (o + 4) 0 - 1) = (5, 12)))) ∧ (¬ 4 ≤ x1 → (vp_in x1 4 ∧ ((σ.2 (o + 4) (x1).toNatClampNeg ≠ 0 ∧ zlay (σ.2 (o + 4) (x1).toNatClampNeg - 1) = (5, 12)))))))
set_option maxRecDepth 100000 in
set_option maxHeartbeats 1000000 in
theorem c_X4_taskAt {nx : Nat} (o : Nat) (x1 : Int32) (σ : zS) (hp : p_X4_taskAt o x1 σ) : zCl 1 zall nx zall nx 53 [.inr (4, 17, o), .inl x1] σ (fun v σ1 => v = some (.inr (5, 12, (f_X4_taskAt o x1 σ))) ∧ σ1 = σ) := by
  refine zmeth (cd := kX4_taskAt) [] 1000 (Nat.le_of_ble_eq_true rfl) rfl okX4_taskAt (Nat.le_refl _) (Nat.le_of_ble_eq_true rfl) ?_
  refine And.intro (fun (h1 : x1 < 0) => ?_) (fun (h1 : ¬ x1 < 0) => ?_)
  · refine And.intro (vp_in_iff.mpr (by decide)) ?_
    refine And.intro (hp.1 h1).1 (fun q902 (e2 : σ.2 (o + 4) 0 = q902 + 1) => ?_)
    have g2 : q902 = (σ.2 (o + 4) 0 - 1) := by omega
    subst g2
    rw [(hp.1 h1).2]
    exact And.intro rfl (And.intro rfl ⟨by rw [f_X4_taskAt, if_pos h1] <;> rfl, rfl⟩)
  · refine And.intro (fun (h3 : 4 ≤ x1) => ?_) (fun (h3 : ¬ 4 ≤ x1) => ?_)
    · refine And.intro (vp_in_iff.mpr (by decide)) ?_
      refine And.intro ((hp.2 h1).1 h3).1 (fun q904 (e4 : σ.2 (o + 4) 0 = q904 + 1) => ?_)
      have g4 : q904 = (σ.2 (o + 4) 0 - 1) := by omega
      subst g4
      rw [((hp.2 h1).1 h3).2]
      exact And.intro rfl (And.intro rfl ⟨by rw [f_X4_taskAt, if_neg h1, if_pos h3] <;> rfl, rfl⟩)
    · refine And.intro ((hp.2 h1).2 h3).1 ?_
      refine And.intro ((hp.2 h1).2 h3).2.1 (fun q905 (e5 : σ.2 (o + 4) (x1).toNatClampNeg = q905 + 1) => ?_)
      have g5 : q905 = (σ.2 (o + 4) (x1).toNatClampNeg - 1) := by omega
      subst g5
      rw [((hp.2 h1).2 h3).2.2]
      exact And.intro rfl (And.intro rfl ⟨by rw [f_X4_taskAt, if_neg h1, if_neg h3] <;> rfl, rfl⟩)
