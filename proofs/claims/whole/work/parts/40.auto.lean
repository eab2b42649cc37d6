/-! printed by wip/whole/dec2.py -/
def u_X0_copyFrom_1 (o : Nat) (q1 : Nat) (σ : zS) : zS := zuI σ o 0 (σ.1 q1 0)
def u_X0_copyFrom_2 (o : Nat) (q1 : Nat) (σ : zS) : zS := zuI (u_X0_copyFrom_1 o q1 σ) o 1 ((u_X0_copyFrom_1 o q1 σ).1 q1 1)
def u_X0_copyFrom_3 (o : Nat) (q1 : Nat) (σ : zS) : zS := zuI (u_X0_copyFrom_2 o q1 σ) o 2 ((u_X0_copyFrom_2 o q1 σ).1 q1 2)
def u_X0_copyFrom_4 (o : Nat) (q1 : Nat) (σ : zS) : zS := zuI (u_X0_copyFrom_3 o q1 σ) o 3 ((u_X0_copyFrom_3 o q1 σ).1 q1 3)
def u_X0_copyFrom_5 (o : Nat) (q1 : Nat) (σ : zS) : zS := zuR (u_X0_copyFrom_4 o q1 σ) o 4 (1000000 + 1)
def u_X0_copyFrom_6 (o : Nat) (q1 : Nat) (σ : zS) : zS := zcpy (u_X0_copyFrom_5 o q1 σ) (q1 + 1) (o + 1) 0 0 (if 240 < (((u_X0_copyFrom_5 o q1 σ).1 o 0) * 4) then 240 else (((u_X0_copyFrom_5 o q1 σ).1 o 0) * 4)).toNatClampNeg
def u_X0_copyFrom_7 (o : Nat) (q1 : Nat) (σ : zS) : zS := zcpy (u_X0_copyFrom_6 o q1 σ) (q1 + 2) (o + 2) 0 0 (if 60 < ((u_X0_copyFrom_6 o q1 σ).1 o 0) then 60 else ((u_X0_copyFrom_6 o q1 σ).1 o 0)).toNatClampNeg
def u_X0_copyFrom_8 (o : Nat) (q1 : Nat) (σ : zS) : zS := zcpy (u_X0_copyFrom_7 o q1 σ) (q1 + 3) (o + 3) 0 0 (if 1680 < ((u_X0_copyFrom_7 o q1 σ).1 o 2) then 1680 else ((u_X0_copyFrom_7 o q1 σ).1 o 2)).toNatClampNeg
def s_X0_copyFrom (o : Nat) (q1 : Nat) (σ : zS) : zS := (u_X0_copyFrom_8 o q1 σ)
def p_X0_copyFrom (o : Nat) (q1 : Nat) (σ : zS) : Prop := ¬ (if 240 < (((u_X0_copyFrom_5 o q1 σ).1 o 0) * 4) then 240 else (((u_X0_copyFrom_5 o q1 σ).1 o 0) * 4)) < 0 ∧ (0 + (if 240 < (((u_X0_copyFrom_5 o q1 σ).1 o 0) * 4) then 240 else (((u_X0_copyFrom_5 o q1 σ).1 o 0) * 4)).toNatClampNeg ≤ 240 ∧ (¬ (if 60 < ((u_X0_copyFrom_6 o q1 σ).1 o 0) then 60 else ((u_X0_copyFrom_6 o q1 σ).1 o 0)) < 0 ∧ (0 + (if 60 < ((u_X0_copyFrom_6 o q1 σ).1 o 0) then 60 else ((u_X0_copyFrom_6 o q1 σ).1 o 0)).toNatClampNeg ≤ 60 ∧ (¬ (if 1680 < ((u_X0_copyFrom_7 o q1 σ).1 o 2) then 1680 else ((u_X0_copyFrom_7 o q1 σ).1 o 2)) < 0 ∧ 0 + (if 1680 < ((u_X0_copyFrom_7 o q1 σ).1 o 2) then 1680 else ((u_X0_copyFrom_7 o q1 σ).1 o 2)).toNatClampNeg ≤ 1680))))
set_option maxRecDepth 100000 in
set_option maxHeartbeats 1000000 in
theorem c_X0_copyFrom {nx : Nat} (o : Nat) (q1 : Nat) (σ : zS) (hp : p_X0_copyFrom o q1 σ) : zCl 1 zall nx zall nx 3 [.inr (0, 9, o), .inr (0, 9, q1)] σ (fun v σ1 => v = none ∧ σ1 = s_X0_copyFrom o q1 σ) := by
  refine zmeth (cd := kX0_copyFrom) [] 1000 (Nat.le_of_ble_eq_true rfl) rfl okX0_copyFrom (Nat.le_refl _) (Nat.le_of_ble_eq_true rfl) ?_
  refine And.intro (by decide) ?_
  refine And.intro (by decide) ?_
  refine And.intro (by decide) ?_
  refine And.intro hp.1 ?_
  refine And.intro hp.2.1 ?_
  refine And.intro hp.2.1 ?_
  refine And.intro (by decide) ?_
  refine And.intro (by decide) ?_
  refine And.intro hp.2.2.1 ?_
  refine And.intro hp.2.2.2.1 ?_
  refine And.intro hp.2.2.2.1 ?_
  refine And.intro (by decide) ?_
  refine And.intro (by decide) ?_
  refine And.intro hp.2.2.2.2.1 ?_
  refine And.intro hp.2.2.2.2.2 ?_
  refine And.intro hp.2.2.2.2.2 ?_
  exact And.intro rfl (And.intro rfl ⟨rfl, by rw [s_X0_copyFrom] <;> rfl⟩)
def u_X0_push_1 (o : Nat) (x1 : Int32) (σ : zS) : zS := zuI σ (o + 3) (σ.1 o 2).toNatClampNeg x1
def u_X0_push_2 (o : Nat) (x1 : Int32) (σ : zS) : zS := zuI (u_X0_push_1 o x1 σ) o 2 (((u_X0_push_1 o x1 σ).1 o 2) + 1)
def s_X0_push (o : Nat) (x1 : Int32) (σ : zS) : zS := if (σ.1 o 2) < 0 then σ else (if 1680 ≤ (σ.1 o 2) then σ else (u_X0_push_2 o x1 σ))
def p_X0_push (o : Nat) (x1 : Int32) (σ : zS) : Prop := ¬ (σ.1 o 2) < 0 → (¬ 1680 ≤ (σ.1 o 2) → vp_in (σ.1 o 2) 1680)
set_option maxRecDepth 100000 in
set_option maxHeartbeats 1000000 in
theorem c_X0_push {nx : Nat} (o : Nat) (x1 : Int32) (σ : zS) (hp : p_X0_push o x1 σ) : zCl 1 zall nx zall nx 12 [.inr (0, 9, o), .inl x1] σ (fun v σ1 => v = none ∧ σ1 = s_X0_push o x1 σ) := by
  refine zmeth (cd := kX0_push) [] 1000 (Nat.le_of_ble_eq_true rfl) rfl okX0_push (Nat.le_refl _) (Nat.le_of_ble_eq_true rfl) ?_
  refine And.intro (fun (h1 : (σ.1 o 2) < 0) => ?_) (fun (h1 : ¬ (σ.1 o 2) < 0) => ?_)
  · exact And.intro rfl (And.intro rfl ⟨rfl, by rw [s_X0_push, if_pos h1] <;> rfl⟩)
  · refine And.intro (fun (h2 : 1680 ≤ (σ.1 o 2)) => ?_) (fun (h2 : ¬ 1680 ≤ (σ.1 o 2)) => ?_)
    · exact And.intro rfl (And.intro rfl ⟨rfl, by rw [s_X0_push, if_neg h1, if_pos h2] <;> rfl⟩)
    · refine And.intro ((hp h1) h2) ?_
      exact And.intro rfl (And.intro rfl ⟨rfl, by rw [s_X0_push, if_neg h1, if_neg h2] <;> rfl⟩)
def u_X0_pop_1 (o : Nat) (σ : zS) : zS := zuI σ o 2 ((σ.1 o 2) - 1)
def r_X0_pop (o : Nat) (σ : zS) : Int32 × zS := if (σ.1 o 2) ≤ 0 then (0, σ) else (if (σ.1 o 2) ≤ 1680 then ((u_X0_pop_1 o σ).1 (o + 3) ((u_X0_pop_1 o σ).1 o 2).toNatClampNeg, (u_X0_pop_1 o σ)) else (0, σ))
def p_X0_pop (o : Nat) (σ : zS) : Prop := ¬ (σ.1 o 2) ≤ 0 → ((σ.1 o 2) ≤ 1680 → vp_in ((u_X0_pop_1 o σ).1 o 2) 1680)
set_option maxRecDepth 100000 in
set_option maxHeartbeats 1000000 in
theorem c_X0_pop {nx : Nat} (o : Nat) (σ : zS) (hp : p_X0_pop o σ) : zCl 1 zall nx zall nx 13 [.inr (0, 9, o)] σ (fun v σ1 => v = some (.inl ((r_X0_pop o σ).1)) ∧ σ1 = (r_X0_pop o σ).2) := by
  refine zmeth (cd := kX0_pop) [] 1000 (Nat.le_of_ble_eq_true rfl) rfl okX0_pop (Nat.le_refl _) (Nat.le_of_ble_eq_true rfl) ?_
  refine And.intro (fun (h1 : (σ.1 o 2) ≤ 0) => ?_) (fun (h1 : ¬ (σ.1 o 2) ≤ 0) => ?_)
  · exact And.intro rfl (And.intro rfl ⟨by rw [r_X0_pop, if_pos h1] <;> rfl, by rw [r_X0_pop, if_pos h1] <;> rfl⟩)
  · refine And.intro (fun (h2 : (σ.1 o 2) ≤ 1680) => ?_) (fun (h2 : ¬ (σ.1 o 2) ≤ 1680) => ?_)
    · refine And.intro ((hp h1) h2) ?_
      exact And.intro rfl (And.intro rfl ⟨by rw [r_X0_pop, if_neg h1, if_pos h2] <;> rfl, by rw [r_X0_pop, if_neg h1, if_pos h2] <;> rfl⟩)
    · exact And.intro rfl (And.intro rfl ⟨by rw [r_X0_pop, if_neg h1, if_neg h2] <;> rfl, by rw [r_X0_pop, if_neg h1, if_neg h2] <;> rfl⟩)
def f_X1_now (σ : zS) : Nat := if (σ.1 30 1) < 0 then (σ.2 31 0 - 1) else (if 13 ≤ (σ.1 30 1) then (σ.2 31 0 - 1) else (σ.2 31 (σ.1 30 1).toNatClampNeg - 1))
def p_X1_now (σ : zS) : Prop := ((σ.1 30 1) < 0 → ((σ.2 31 0 ≠ 0 ∧ zlay (σ.2 31 0 - 1) = (4, 17)))) ∧ (¬ (σ.1 30 1) < 0 → ((13 ≤ (σ.1 30 1) → ((σ.2 31 0 ≠ 0 ∧ zlay (σ.2 31 0 - 1) = (4, 17)))) ∧ (¬ 13 ≤ (σ.1 30 1) → (vp_in (σ.1 30 1) 13 ∧ ((σ.2 31 (σ.1 30 1).toNatClampNeg ≠ 0 ∧ zlay (σ.2 31 (σ.1 30 1).toNatClampNeg - 1) = (4, 17)))))))
set_option maxRecDepth 100000 in
set_option maxHeartbeats 1000000 in
theorem c_X1_now {nx : Nat} (σ : zS) (hp : p_X1_now σ) : zCl 1 zall nx zall nx 17 [.inr (1, 3, 30)] σ (fun v σ1 => v = some (.inr (4, 17, (f_X1_now σ))) ∧ σ1 = σ) := by
  refine zmeth (cd := kX1_now) [] 1000 (Nat.le_of_ble_eq_true rfl) rfl okX1_now (Nat.le_refl _) (Nat.le_of_ble_eq_true rfl) ?_
  refine And.intro (fun (h1 : (σ.1 30 1) < 0) => ?_) (fun (h1 : ¬ (σ.1 30 1) < 0) => ?_)
  · refine And.intro (vp_in_iff.mpr (by decide)) ?_
    refine And.intro (hp.1 h1).1 (fun q902 (e2 : σ.2 31 0 = q902 + 1) => ?_)
    have g2 : q902 = (σ.2 31 0 - 1) := by omega
    subst g2
    rw [(hp.1 h1).2]
    exact And.intro rfl (And.intro rfl ⟨by rw [f_X1_now, if_pos h1] <;> rfl, rfl⟩)
  · refine And.intro (fun (h3 : 13 ≤ (σ.1 30 1)) => ?_) (fun (h3 : ¬ 13 ≤ (σ.1 30 1)) => ?_)
    · refine And.intro (vp_in_iff.mpr (by decide)) ?_
      refine And.intro ((hp.2 h1).1 h3).1 (fun q904 (e4 : σ.2 31 0 = q904 + 1) => ?_)
      have g4 : q904 = (σ.2 31 0 - 1) := by omega
      subst g4
      rw [((hp.2 h1).1 h3).2]
      exact And.intro rfl (And.intro rfl ⟨by rw [f_X1_now, if_neg h1, if_pos h3] <;> rfl, rfl⟩)
    · refine And.intro ((hp.2 h1).2 h3).1 ?_
      refine And.intro ((hp.2 h1).2 h3).2.1 (fun q905 (e5 : σ.2 31 (σ.1 30 1).toNatClampNeg = q905 + 1) => ?_)
      have g5 : q905 = (σ.2 31 (σ.1 30 1).toNatClampNeg - 1) := by omega
      subst g5
      rw [((hp.2 h1).2 h3).2.2]
      exact And.intro rfl (And.intro rfl ⟨by rw [f_X1_now, if_neg h1, if_neg h3] <;> rfl, rfl⟩)
def u_X1_dropOldest_h0_1 (N : Nat) (a1 : Nat) (v2 : Int32) (σ : zS) : zS := zuR σ 31 12 (a1 + 1)
def u_X1_dropOldest_h0_2 (N : Nat) (a1 : Nat) (v2 : Int32) (σ : zS) : zS := zuR σ 31 (v2).toNatClampNeg ((σ.2 31 (v2 + 1).toNatClampNeg - 1) + 1)
def l_X1_dropOldest (N : Nat) : Nat → Nat → Int32 → zS → zS
  | 0, _, _, σ => σ
  | n + 1, a1, v2, σ => if 13 ≤ (v2 + 1) then (u_X1_dropOldest_h0_1 N a1 v2 σ) else (l_X1_dropOldest N n a1 (v2 + 1) (u_X1_dropOldest_h0_2 N a1 v2 σ))
def q_X1_dropOldest (N : Nat) : Nat → Nat → Int32 → zS → Prop
  | 0, _, _, _ => False
  | n + 1, a1, v2, σ => ¬ 13 ≤ (v2 + 1) → (vp_in (v2 + 1) 13 ∧ ((σ.2 31 (v2 + 1).toNatClampNeg ≠ 0 ∧ zlay (σ.2 31 (v2 + 1).toNatClampNeg - 1) = (4, 17)) ∧ (vp_in v2 13 ∧ q_X1_dropOldest N n a1 (v2 + 1) (u_X1_dropOldest_h0_2 N a1 v2 σ))))
set_option maxRecDepth 100000 in
set_option maxHeartbeats 1000000 in
theorem w_X1_dropOldest {nx : Nat} (N : Nat) : ∀ n : Nat, (∀ (a1 : Nat) (v2 : Int32) (σ : zS), q_X1_dropOldest N n a1 v2 σ → zWp 1 zall nx 21 (fun v σ1 => v = none ∧ σ1 = l_X1_dropOldest N n a1 v2 σ) zall nx 9 [some (.inr (1, 3, 30)), some (.inr (4, 17, a1)), some (.inl v2)] [] σ) := by
  intro n
  induction n with
  | zero => exact fun _ _ _ h => h.elim
  | succ n ih =>
    intro a1 v2 σ hp
    rw [q_X1_dropOldest] at hp
    refine zvc_sound (cd := kX1_dropOldest) (cs := [9]) rfl okX1_dropOldest 1000 _ _ 9 (zseek kX1_dropOldest 9) _ _ _ zseek_sub ?_
    refine And.intro (fun (h1 : 13 ≤ (v2 + 1)) => ?_) (fun (h1 : ¬ 13 ≤ (v2 + 1)) => ?_)
    · refine And.intro (vp_in_iff.mpr (by decide)) ?_
      exact And.intro rfl (And.intro rfl ⟨rfl, by rw [l_X1_dropOldest, if_pos h1] <;> rfl⟩)
    · refine And.intro (hp h1).1 ?_
      refine And.intro (hp h1).2.1.1 (fun q902 (e2 : σ.2 31 (v2 + 1).toNatClampNeg = q902 + 1) => ?_)
      have g2 : q902 = (σ.2 31 (v2 + 1).toNatClampNeg - 1) := by omega
      subst g2
      rw [(hp h1).2.1.2]
      refine And.intro (hp h1).2.2.1 ?_
      refine zWp.use (ih a1 (v2 + 1) (u_X1_dropOldest_h0_2 N a1 v2 σ) (hp h1).2.2.2) (And.intro rfl (And.intro rfl (And.intro rfl trivial))) (fun v9 σ9 h9 => ?_)
      rw [l_X1_dropOldest, if_neg h1]; exact h9
def s_X1_dropOldest (N : Nat) (σ : zS) : zS := l_X1_dropOldest N N (σ.2 31 0 - 1) 0 σ
def p_X1_dropOldest (N : Nat) (σ : zS) : Prop := (σ.2 31 0 ≠ 0 ∧ zlay (σ.2 31 0 - 1) = (4, 17)) ∧ q_X1_dropOldest N N (σ.2 31 0 - 1) 0 σ
set_option maxRecDepth 100000 in
set_option maxHeartbeats 1000000 in
theorem c_X1_dropOldest {nx : Nat} (N : Nat) (σ : zS) (hp : p_X1_dropOldest N σ) : zCl 1 zall nx zall nx 21 [.inr (1, 3, 30)] σ (fun v σ1 => v = none ∧ σ1 = s_X1_dropOldest N σ) := by
  refine zmeth (cd := kX1_dropOldest) [9] 1000 (Nat.le_of_ble_eq_true rfl) rfl okX1_dropOldest (Nat.le_refl _) (Nat.le_of_ble_eq_true rfl) ?_
  refine And.intro (vp_in_iff.mpr (by decide)) ?_
  refine And.intro hp.1.1 (fun q901 (e1 : σ.2 31 0 = q901 + 1) => ?_)
  have g1 : q901 = (σ.2 31 0 - 1) := by omega
  subst g1
  rw [hp.1.2]
  refine zWp.use ((w_X1_dropOldest N N) (σ.2 31 0 - 1) 0 σ hp.2) (And.intro rfl (And.intro rfl (And.intro rfl trivial))) (fun v9 σ9 h9 => ?_)
  rw [s_X1_dropOldest]; exact h9
def f_X4_taskAt (o : Nat) (x1 : Int32) (σ : zS) : Nat := if x1 < 0 then (σ.2 (o + 4) 0 - 1) else (if 4 ≤ x1 then (σ.2 (o + 4) 0 - 1) else (σ.2 (o + 4) (x1).toNatClampNeg - 1))
def p_X4_taskAt (o : Nat) (x1 : Int32) (σ : zS) : Prop := (x1 < 0 → ((σ.2 (o + 4) 0 ≠ 0 ∧ zlay (σ.2 (o + 4) 0 - 1) = (5, 12)))) ∧ (¬ x1 < 0 → ((4 ≤ x1 → ((σ.2 (o + 4) 0 ≠ 0 ∧ zlay (σ.2 (o + 4) 0 - 1) = (5, 12)))) ∧ (¬ 4 ≤ x1 → (vp_in x1 4 ∧ ((σ.2 (o + 4) (x1).toNatClampNeg ≠ 0 ∧ zlay (σ.2 (o + 4) (x1).toNatClampNeg - 1) = (5, 12)))))))
set_option maxRecDepth 100000 in
set_option maxHeartbeats 1000000 in
theorem c_X4_taskAt {nx : Nat} (o : Nat) (x1 : Int32) (σ : zS) (hp : p_X4_taskAt o x1 σ) : zCl 1 zall nx zall nx 53 [.inr (4, 17, o), .inl x1] σ (fun v σ1 => v = some (.inr (5, 12, (f_X4_taskAt o x1 σ))) ∧ σ1 = σ) := by
  refine zmeth (cd := kX4_taskAt) [] 1000 (Nat.le_of_ble_eq_true rfl) rfl okX4_taskAt (Nat.le_refl _) (Nat.le_of_ble_eq_true rfl) ?_
  refine And.intro (fun (h1 : x1 < 0) => ?_) (fun (h1 : ¬ x1 < 0) => ?_)
  · refine And.intro (vp_in_iff.mpr (by decide)) ?_
    refine And.intro (hp.1 h1).1 (fun q902 (e2 : σ.2 (o + 4) 0 = q902 + 1) => ?_)
    have g2 : q902 = (σ.2 (o + 4) 0 - 1) := by omega
    subst g2
    rw [(hp.1 h1).2]
    exact And.intro rfl (And.intro rfl ⟨by rw [f_X4_taskAt, if_pos h1] <;> rfl, rfl⟩)
  · refine And.intro (fun (h3 : 4 ≤ x1) => ?_) (fun (h3 : ¬ 4 ≤ x1) => ?_)
    · refine And.intro (vp_in_iff.mpr (by decide)) ?_
      refine And.intro ((hp.2 h1).1 h3).1 (fun q904 (e4 : σ.2 (o + 4) 0 = q904 + 1) => ?_)
      have g4 : q904 = (σ.2 (o + 4) 0 - 1) := by omega
      subst g4
      rw [((hp.2 h1).1 h3).2]
      exact And.intro rfl (And.intro rfl ⟨by rw [f_X4_taskAt, if_neg h1, if_pos h3] <;> rfl, rfl⟩)
    · refine And.intro ((hp.2 h1).2 h3).1 ?_
      refine And.intro ((hp.2 h1).2 h3).2.1 (fun q905 (e5 : σ.2 (o + 4) (x1).toNatClampNeg = q905 + 1) => ?_)
      have g5 : q905 = (σ.2 (o + 4) (x1).toNatClampNeg - 1) := by omega
      subst g5
      rw [((hp.2 h1).2 h3).2.2]
      exact And.intro rfl (And.intro rfl ⟨by rw [f_X4_taskAt, if_neg h1, if_neg h3] <;> rfl, rfl⟩)
def f_X4_isOver (o : Nat) (x1 : Int32) (σ : zS) : Int32 := if (σ.1 (f_X4_taskAt o x1 σ) 1) = 2 then 1 else (if (σ.1 (f_X4_taskAt o x1 σ) 1) = 3 then 1 else 0)
def p_X4_isOver (o : Nat) (x1 : Int32) (σ : zS) : Prop := p_X4_taskAt o x1 σ
set_option maxRecDepth 100000 in
set_option maxHeartbeats 1000000 in
theorem c_X4_isOver {nx : Nat} (o : Nat) (x1 : Int32) (σ : zS) (hp : p_X4_isOver o x1 σ) : zCl 2 zall nx zall nx 54 [.inr (4, 17, o), .inl x1] σ (fun v σ1 => v = some (.inl (f_X4_isOver o x1 σ)) ∧ σ1 = σ) := by
  refine zmeth (cd := kX4_isOver) [] 1000 (Nat.le_of_ble_eq_true rfl) rfl okX4_isOver (Nat.le_refl _) (Nat.le_of_ble_eq_true rfl) ?_
  refine zCl.use (c_X4_taskAt o x1 σ hp) (Nat.le_of_ble_eq_true rfl) ?_
  rintro _ σ8 ⟨rfl, h8⟩
  subst σ8
  refine And.intro (fun (h1 : (σ.1 (f_X4_taskAt o x1 σ) 1) = 2) => ?_) (fun (h1 : ¬ (σ.1 (f_X4_taskAt o x1 σ) 1) = 2) => ?_)
  · exact And.intro rfl (And.intro rfl (And.intro (Or.inr rfl) ⟨by rw [f_X4_isOver, if_pos h1] <;> rfl, rfl⟩))
  · refine And.intro (fun (h2 : ¬ (σ.1 (f_X4_taskAt o x1 σ) 1) = 3) => ?_) (fun (h2 : (σ.1 (f_X4_taskAt o x1 σ) 1) = 3) => ?_)
    · exact And.intro rfl (And.intro rfl (And.intro (Or.inl rfl) ⟨by rw [f_X4_isOver, if_neg h1, if_neg h2] <;> rfl, rfl⟩))
    · exact And.intro rfl (And.intro rfl (And.intro (Or.inr rfl) ⟨by rw [f_X4_isOver, if_neg h1, if_pos h2] <;> rfl, rfl⟩))
theorem b_X4_isOver {o : Nat} {x1 : Int32} {σ : zS} : f_X4_isOver o x1 σ = 0 ∨ f_X4_isOver o x1 σ = 1 := by
  unfold f_X4_isOver
  (repeat' split) <;> first | exact Or.inl rfl | exact Or.inr rfl
def u_X5_copyFrom_1 (o : Nat) (q1 : Nat) (σ : zS) : zS := s_X0_copyFrom (o + 1) (q1 + 1) σ
def u_X5_copyFrom_2 (o : Nat) (q1 : Nat) (σ : zS) : zS := zuI (u_X5_copyFrom_1 o q1 σ) o 1 ((u_X5_copyFrom_1 o q1 σ).1 q1 1)
def u_X5_copyFrom_3 (o : Nat) (q1 : Nat) (σ : zS) : zS := zuI (u_X5_copyFrom_2 o q1 σ) o 2 ((u_X5_copyFrom_2 o q1 σ).1 q1 2)
def u_X5_copyFrom_4 (o : Nat) (q1 : Nat) (σ : zS) : zS := zuI (u_X5_copyFrom_3 o q1 σ) o 3 ((u_X5_copyFrom_3 o q1 σ).1 q1 3)
def u_X5_copyFrom_5 (o : Nat) (q1 : Nat) (σ : zS) : zS := zuI (u_X5_copyFrom_4 o q1 σ) o 4 ((u_X5_copyFrom_4 o q1 σ).1 q1 4)
def u_X5_copyFrom_6 (o : Nat) (q1 : Nat) (σ : zS) : zS := zuI (u_X5_copyFrom_5 o q1 σ) o 5 ((u_X5_copyFrom_5 o q1 σ).1 q1 5)
def u_X5_copyFrom_7 (o : Nat) (q1 : Nat) (σ : zS) : zS := zuI (u_X5_copyFrom_6 o q1 σ) o 6 ((u_X5_copyFrom_6 o q1 σ).1 q1 6)
def u_X5_copyFrom_8 (o : Nat) (q1 : Nat) (σ : zS) : zS := zuI (u_X5_copyFrom_7 o q1 σ) o 7 ((u_X5_copyFrom_7 o q1 σ).1 q1 7)
def u_X5_copyFrom_9 (o : Nat) (q1 : Nat) (σ : zS) : zS := zuI (u_X5_copyFrom_8 o q1 σ) o 8 ((u_X5_copyFrom_8 o q1 σ).1 q1 8)
def u_X5_copyFrom_10 (o : Nat) (q1 : Nat) (σ : zS) : zS := zuI (u_X5_copyFrom_9 o q1 σ) o 9 ((u_X5_copyFrom_9 o q1 σ).1 q1 9)
def u_X5_copyFrom_11 (o : Nat) (q1 : Nat) (σ : zS) : zS := zuI (u_X5_copyFrom_10 o q1 σ) o 10 ((u_X5_copyFrom_10 o q1 σ).1 q1 10)
def u_X5_copyFrom_12 (o : Nat) (q1 : Nat) (σ : zS) : zS := zuI (u_X5_copyFrom_11 o q1 σ) o 11 ((u_X5_copyFrom_11 o q1 σ).1 q1 11)
def s_X5_copyFrom (o : Nat) (q1 : Nat) (σ : zS) : zS := (u_X5_copyFrom_12 o q1 σ)
def p_X5_copyFrom (o : Nat) (q1 : Nat) (σ : zS) : Prop := p_X0_copyFrom (o + 1) (q1 + 1) σ
set_option maxRecDepth 100000 in
set_option maxHeartbeats 1000000 in
theorem c_X5_copyFrom {nx : Nat} (o : Nat) (q1 : Nat) (σ : zS) (hp : p_X5_copyFrom o q1 σ) : zCl 2 zall nx zall nx 86 [.inr (5, 12, o), .inr (5, 12, q1)] σ (fun v σ1 => v = none ∧ σ1 = s_X5_copyFrom o q1 σ) := by
  refine zmeth (cd := kX5_copyFrom) [] 1000 (Nat.le_of_ble_eq_true rfl) rfl okX5_copyFrom (Nat.le_refl _) (Nat.le_of_ble_eq_true rfl) ?_
  refine zCl.use (c_X0_copyFrom (o + 1) (q1 + 1) σ hp) (Nat.le_of_ble_eq_true rfl) ?_
  rintro _ σ8 ⟨rfl, h8⟩
  subst σ8
  exact And.intro rfl (And.intro rfl ⟨rfl, by rw [s_X5_copyFrom] <;> rfl⟩)
def f_X8_at (n1 : Nat) (q1 : Nat) (x2 : Int32) (σ : zS) : Int32 := if x2 < 0 then 0 else (if (Int32.ofNat n1) ≤ x2 then 0 else (σ.1 q1 (x2).toNatClampNeg))
def p_X8_at (n1 : Nat) (q1 : Nat) (x2 : Int32) (σ : zS) : Prop := ¬ x2 < 0 → (¬ (Int32.ofNat n1) ≤ x2 → vp_in x2 n1)
set_option maxRecDepth 100000 in
set_option maxHeartbeats 1000000 in
theorem c_X8_at {cp : Nat → Bool} {nx : Nat} (n1 : Nat) (q1 : Nat) (x2 : Int32) (σ : zS) (hp : p_X8_at n1 q1 x2 σ) : zCl 1 cp nx cp nx 140 [.inr (20, n1, q1), .inl x2] σ (fun v σ1 => v = some (.inl (f_X8_at n1 q1 x2 σ)) ∧ σ1 = σ) := by
  refine zmeth (cd := kX8_at) [] 1000 (Nat.le_of_ble_eq_true rfl) rfl okX8_at (Nat.le_refl _) (Nat.le_of_ble_eq_true rfl) ?_
  refine And.intro (fun (h1 : x2 < 0) => ?_) (fun (h1 : ¬ x2 < 0) => ?_)
  · exact And.intro rfl (And.intro rfl ⟨by rw [f_X8_at, if_pos h1] <;> rfl, rfl⟩)
  · refine And.intro (fun (h2 : (Int32.ofNat n1) ≤ x2) => ?_) (fun (h2 : ¬ (Int32.ofNat n1) ≤ x2) => ?_)
    · exact And.intro rfl (And.intro rfl ⟨by rw [f_X8_at, if_neg h1, if_pos h2] <;> rfl, rfl⟩)
    · refine And.intro ((hp h1) h2) ?_
      exact And.intro rfl (And.intro rfl ⟨by rw [f_X8_at, if_neg h1, if_neg h2] <;> rfl, rfl⟩)
def u_X8_put_1 (n1 : Nat) (q1 : Nat) (x2 : Int32) (x3 : Int32) (σ : zS) : zS := zuI σ q1 (x2).toNatClampNeg x3
def s_X8_put (n1 : Nat) (q1 : Nat) (x2 : Int32) (x3 : Int32) (σ : zS) : zS := if x2 < 0 then σ else (if (Int32.ofNat n1) ≤ x2 then σ else (u_X8_put_1 n1 q1 x2 x3 σ))
def p_X8_put (n1 : Nat) (q1 : Nat) (x2 : Int32) (x3 : Int32) (σ : zS) : Prop := ¬ x2 < 0 → (¬ (Int32.ofNat n1) ≤ x2 → vp_in x2 n1)
set_option maxRecDepth 100000 in
set_option maxHeartbeats 1000000 in
theorem c_X8_put {cp : Nat → Bool} {nx : Nat} (n1 : Nat) (q1 : Nat) (x2 : Int32) (x3 : Int32) (σ : zS) (hp : p_X8_put n1 q1 x2 x3 σ) : zCl 1 cp nx cp nx 141 [.inr (20, n1, q1), .inl x2, .inl x3] σ (fun v σ1 => v = none ∧ σ1 = s_X8_put n1 q1 x2 x3 σ) := by
  refine zmeth (cd := kX8_put) [] 1000 (Nat.le_of_ble_eq_true rfl) rfl okX8_put (Nat.le_refl _) (Nat.le_of_ble_eq_true rfl) ?_
  refine And.intro (fun (h1 : x2 < 0) => ?_) (fun (h1 : ¬ x2 < 0) => ?_)
  · exact And.intro rfl (And.intro rfl ⟨rfl, by rw [s_X8_put, if_pos h1] <;> rfl⟩)
  · refine And.intro (fun (h2 : (Int32.ofNat n1) ≤ x2) => ?_) (fun (h2 : ¬ (Int32.ofNat n1) ≤ x2) => ?_)
    · exact And.intro rfl (And.intro rfl ⟨rfl, by rw [s_X8_put, if_neg h1, if_pos h2] <;> rfl⟩)
    · refine And.intro ((hp h1) h2) ?_
      exact And.intro rfl (And.intro rfl ⟨rfl, by rw [s_X8_put, if_neg h1, if_neg h2] <;> rfl⟩)
def u_X8_feedFour_h0_1 (N : Nat) (v1 : Int32) (v2 : Int32) (σ : zS) : zS := s_X8_put 1000 1 (σ.1 0 1) (((Int32.toUInt32 v1 >>> (Int32.toUInt32 v2 &&& Int32.toUInt32 31)).toInt32) &&& 255) σ
def u_X8_feedFour_h0_2 (N : Nat) (v1 : Int32) (v2 : Int32) (σ : zS) : zS := zuI (u_X8_feedFour_h0_1 N v1 v2 σ) 0 1 (((u_X8_feedFour_h0_1 N v1 v2 σ).1 0 1) + 1)
def l_X8_feedFour (N : Nat) : Nat → Int32 → Int32 → zS → zS
  | 0, _, _, σ => σ
  | n + 1, v1, v2, σ => if v2 < 0 then σ else (l_X8_feedFour N n v1 (v2 + (-8)) (u_X8_feedFour_h0_2 N v1 v2 σ))
def q_X8_feedFour (N : Nat) : Nat → Int32 → Int32 → zS → Prop
  | 0, _, _, _ => False
  | n + 1, v1, v2, σ => ¬ v2 < 0 → (p_X8_put 1000 1 (σ.1 0 1) (((Int32.toUInt32 v1 >>> (Int32.toUInt32 v2 &&& Int32.toUInt32 31)).toInt32) &&& 255) σ ∧ q_X8_feedFour N n v1 (v2 + (-8)) (u_X8_feedFour_h0_2 N v1 v2 σ))
set_option maxRecDepth 100000 in
set_option maxHeartbeats 1000000 in
theorem w_X8_feedFour {nx : Nat} (N : Nat) : ∀ n : Nat, (∀ (v1 : Int32) (v2 : Int32) (σ : zS), q_X8_feedFour N n v1 v2 σ → zWp 2 zall nx 143 (fun v σ1 => v = none ∧ σ1 = l_X8_feedFour N n v1 v2 σ) zall nx 3 [some (.inr (8, 16, 0)), some (.inl v1), some (.inl v2)] [] σ) := by
  intro n
  induction n with
  | zero => exact fun _ _ _ h => h.elim
  | succ n ih =>
    intro v1 v2 σ hp
    rw [q_X8_feedFour] at hp
    refine zvc_sound (cd := kX8_feedFour) (cs := [3]) rfl okX8_feedFour 1000 _ _ 3 (zseek kX8_feedFour 3) _ _ _ zseek_sub ?_
    refine And.intro (fun (h1 : v2 < 0) => ?_) (fun (h1 : ¬ v2 < 0) => ?_)
    · exact And.intro rfl (And.intro rfl ⟨rfl, by rw [l_X8_feedFour, if_pos h1] <;> rfl⟩)
    · refine zCl.use (c_X8_put 1000 1 (σ.1 0 1) (((Int32.toUInt32 v1 >>> (Int32.toUInt32 v2 &&& Int32.toUInt32 31)).toInt32) &&& 255) σ (hp h1).1) (Nat.le_of_ble_eq_true rfl) ?_
      rintro _ σ8 ⟨rfl, h8⟩
      subst σ8
      refine zWp.use (ih v1 (v2 + (-8)) (u_X8_feedFour_h0_2 N v1 v2 σ) (hp h1).2) (And.intro rfl (And.intro rfl (And.intro rfl trivial))) (fun v9 σ9 h9 => ?_)
      rw [l_X8_feedFour, if_neg h1]; exact h9
def s_X8_feedFour (x1 : Int32) (N : Nat) (σ : zS) : zS := l_X8_feedFour N N x1 24 σ
def p_X8_feedFour (x1 : Int32) (N : Nat) (σ : zS) : Prop := q_X8_feedFour N N x1 24 σ
set_option maxRecDepth 100000 in
set_option maxHeartbeats 1000000 in
theorem c_X8_feedFour {nx : Nat} (x1 : Int32) (N : Nat) (σ : zS) (hp : p_X8_feedFour x1 N σ) : zCl 2 zall nx zall nx 143 [.inr (8, 16, 0), .inl x1] σ (fun v σ1 => v = none ∧ σ1 = s_X8_feedFour x1 N σ) := by
  refine zmeth (cd := kX8_feedFour) [3] 1000 (Nat.le_of_ble_eq_true rfl) rfl okX8_feedFour (Nat.le_refl _) (Nat.le_of_ble_eq_true rfl) ?_
  refine zWp.use ((w_X8_feedFour N N) x1 24 σ hp) (And.intro rfl (And.intro rfl (And.intro rfl trivial))) (fun v9 σ9 h9 => ?_)
  rw [s_X8_feedFour]; exact h9
def f_X8_isTask (x1 : Int32) (σ : zS) : Int32 := if x1 < 0 then 0 else (if (σ.1 (σ.2 0 5 - 1) 7) ≤ x1 then 0 else 1)
def p_X8_isTask (x1 : Int32) (σ : zS) : Prop := ¬ x1 < 0 → ((σ.2 0 5 ≠ 0 ∧ zlay (σ.2 0 5 - 1) = (2, 16)))
set_option maxRecDepth 100000 in
set_option maxHeartbeats 1000000 in
theorem c_X8_isTask {cp : Nat → Bool} {nx : Nat} (x1 : Int32) (σ : zS) (hp : p_X8_isTask x1 σ) : zCl 1 cp nx cp nx 144 [.inr (8, 16, 0), .inl x1] σ (fun v σ1 => v = some (.inl (f_X8_isTask x1 σ)) ∧ σ1 = σ) := by
  refine zmeth (cd := kX8_isTask) [] 1000 (Nat.le_of_ble_eq_true rfl) rfl okX8_isTask (Nat.le_refl _) (Nat.le_of_ble_eq_true rfl) ?_
  refine And.intro (fun (h1 : x1 < 0) => ?_) (fun (h1 : ¬ x1 < 0) => ?_)
  · exact And.intro rfl (And.intro rfl (And.intro (Or.inl rfl) ⟨by rw [f_X8_isTask, if_pos h1] <;> rfl, rfl⟩))
  · refine And.intro (hp h1).1 (fun q902 (e2 : σ.2 0 5 = q902 + 1) => ?_)
    have g2 : q902 = (σ.2 0 5 - 1) := by omega
    subst g2
    rw [(hp h1).2]
    refine And.intro (fun (h3 : (σ.1 (σ.2 0 5 - 1) 7) ≤ x1) => ?_) (fun (h3 : ¬ (σ.1 (σ.2 0 5 - 1) 7) ≤ x1) => ?_)
    · exact And.intro rfl (And.intro rfl (And.intro (Or.inl rfl) ⟨by rw [f_X8_isTask, if_neg h1, if_pos h3] <;> rfl, rfl⟩))
    · exact And.intro rfl (And.intro rfl (And.intro (Or.inr rfl) ⟨by rw [f_X8_isTask, if_neg h1, if_neg h3] <;> rfl, rfl⟩))
theorem b_X8_isTask {x1 : Int32} {σ : zS} : f_X8_isTask x1 σ = 0 ∨ f_X8_isTask x1 σ = 1 := by
  unfold f_X8_isTask
  (repeat' split) <;> first | exact Or.inl rfl | exact Or.inr rfl
def f_X8_trapCost (x1 : Int32) (σ : zS) : Int32 := (σ.1 (f_X1_now σ) 4) + (x1 * (σ.1 (f_X1_now σ) 5))
def p_X8_trapCost (x1 : Int32) (σ : zS) : Prop := p_X1_now σ
set_option maxRecDepth 100000 in
set_option maxHeartbeats 1000000 in
theorem c_X8_trapCost {nx : Nat} (x1 : Int32) (σ : zS) (hp : p_X8_trapCost x1 σ) : zCl 2 zall nx zall nx 150 [.inr (8, 16, 0), .inl x1] σ (fun v σ1 => v = some (.inl (f_X8_trapCost x1 σ)) ∧ σ1 = σ) := by
  refine zmeth (cd := kX8_trapCost) [] 1000 (Nat.le_of_ble_eq_true rfl) rfl okX8_trapCost (Nat.le_refl _) (Nat.le_of_ble_eq_true rfl) ?_
  refine zCl.use (c_X1_now σ hp) (Nat.le_of_ble_eq_true rfl) ?_
  rintro _ σ8 ⟨rfl, h8⟩
  subst σ8
  exact And.intro rfl (And.intro rfl ⟨by rw [f_X8_trapCost] <;> rfl, rfl⟩)
def f_X9_isIn (x1 : Int32) (x2 : Int32) (x3 : Int32) : Int32 := if x1 < x2 then 0 else (if x3 < x1 then 0 else 1)
set_option maxRecDepth 100000 in
set_option maxHeartbeats 1000000 in
theorem c_X9_isIn {cp : Nat → Bool} {nx : Nat} (x1 : Int32) (x2 : Int32) (x3 : Int32) (σ : zS) : zCl 1 cp nx cp nx 152 [.inl x1, .inl x2, .inl x3] σ (fun v σ1 => v = some (.inl (f_X9_isIn x1 x2 x3)) ∧ σ1 = σ) := by
  refine zmeth (cd := kX9_isIn) [] 1000 (Nat.le_of_ble_eq_true rfl) rfl okX9_isIn (Nat.le_refl _) (Nat.le_of_ble_eq_true rfl) ?_
  refine And.intro (fun (h1 : x1 < x2) => ?_) (fun (h1 : ¬ x1 < x2) => ?_)
  · exact And.intro rfl (And.intro rfl (And.intro (Or.inl rfl) ⟨by rw [f_X9_isIn, if_pos h1] <;> rfl, rfl⟩))
  · refine And.intro (fun (h2 : x3 < x1) => ?_) (fun (h2 : ¬ x3 < x1) => ?_)
    · exact And.intro rfl (And.intro rfl (And.intro (Or.inl rfl) ⟨by rw [f_X9_isIn, if_neg h1, if_pos h2] <;> rfl, rfl⟩))
    · exact And.intro rfl (And.intro rfl (And.intro (Or.inr rfl) ⟨by rw [f_X9_isIn, if_neg h1, if_neg h2] <;> rfl, rfl⟩))
theorem b_X9_isIn {x1 : Int32} {x2 : Int32} {x3 : Int32} : f_X9_isIn x1 x2 x3 = 0 ∨ f_X9_isIn x1 x2 x3 = 1 := by
  unfold f_X9_isIn
  (repeat' split) <;> first | exact Or.inl rfl | exact Or.inr rfl
def u_X9_feed_h0_1 (N : Nat) (v1 : Int32) (v2 : Int32) (v3 : Int32) (v4 : Int32) (v5 : Int32) (v6 : Int32) (σ : zS) : zS := zuI σ 468 18 ((σ.1 468 18) + 20)
def u_X9_feed_h0_2 (N : Nat) (v1 : Int32) (v2 : Int32) (v3 : Int32) (v4 : Int32) (v5 : Int32) (v6 : Int32) (σ : zS) : zS := zuI σ 485 ((σ.1 468 18) + v6).toNatClampNeg (vp_nar .byte ((v5 >>> ((24 - (8 * (v6 &&& 3))) &&& 31)).toInt8.toInt32))
def u_X9_feed_h0_3 (N : Nat) (v1 : Int32) (v2 : Int32) (v3 : Int32) (v4 : Int32) (v5 : Int32) (v6 : Int32) (σ : zS) : zS := zuI σ 485 ((σ.1 468 18) + v6).toNatClampNeg (vp_nar .byte ((v4 >>> ((24 - (8 * (v6 &&& 3))) &&& 31)).toInt8.toInt32))
def u_X9_feed_h0_4 (N : Nat) (v1 : Int32) (v2 : Int32) (v3 : Int32) (v4 : Int32) (v5 : Int32) (v6 : Int32) (σ : zS) : zS := zuI σ 485 ((σ.1 468 18) + v6).toNatClampNeg (vp_nar .byte ((v3 >>> ((24 - (8 * (v6 &&& 3))) &&& 31)).toInt8.toInt32))
def u_X9_feed_h0_5 (N : Nat) (v1 : Int32) (v2 : Int32) (v3 : Int32) (v4 : Int32) (v5 : Int32) (v6 : Int32) (σ : zS) : zS := zuI σ 485 ((σ.1 468 18) + v6).toNatClampNeg (vp_nar .byte ((v2 >>> ((24 - (8 * (v6 &&& 3))) &&& 31)).toInt8.toInt32))
def u_X9_feed_h0_6 (N : Nat) (v1 : Int32) (v2 : Int32) (v3 : Int32) (v4 : Int32) (v5 : Int32) (v6 : Int32) (σ : zS) : zS := zuI σ 485 ((σ.1 468 18) + v6).toNatClampNeg (vp_nar .byte ((v1 >>> ((24 - (8 * (v6 &&& 3))) &&& 31)).toInt8.toInt32))
def l_X9_feed (N : Nat) : Nat → Int32 → Int32 → Int32 → Int32 → Int32 → Int32 → zS → Int32 × zS
  | 0, _, _, _, _, _, _, σ => (0, σ)
  | n + 1, v1, v2, v3, v4, v5, v6, σ => if 20 ≤ v6 then ((u_X9_feed_h0_1 N v1 v2 v3 v4 v5 v6 σ).1 468 18, (u_X9_feed_h0_1 N v1 v2 v3 v4 v5 v6 σ)) else (if 4 ≤ v6 then (if 8 ≤ v6 then (if 12 ≤ v6 then (if 16 ≤ v6 then (l_X9_feed N n v1 v2 v3 v4 v5 (v6 + 1) (u_X9_feed_h0_2 N v1 v2 v3 v4 v5 v6 σ)) else (l_X9_feed N n v1 v2 v3 v4 v5 (v6 + 1) (u_X9_feed_h0_3 N v1 v2 v3 v4 v5 v6 σ))) else (l_X9_feed N n v1 v2 v3 v4 v5 (v6 + 1) (u_X9_feed_h0_4 N v1 v2 v3 v4 v5 v6 σ))) else (l_X9_feed N n v1 v2 v3 v4 v5 (v6 + 1) (u_X9_feed_h0_5 N v1 v2 v3 v4 v5 v6 σ))) else (l_X9_feed N n v1 v2 v3 v4 v5 (v6 + 1) (u_X9_feed_h0_6 N v1 v2 v3 v4 v5 v6 σ)))
def q_X9_feed (N : Nat) : Nat → Int32 → Int32 → Int32 → Int32 → Int32 → Int32 → zS → Prop
  | 0, _, _, _, _, _, _, _ => False
  | n + 1, v1, v2, v3, v4, v5, v6, σ => ¬ 20 ≤ v6 → ((4 ≤ v6 → ((8 ≤ v6 → ((12 ≤ v6 → ((16 ≤ v6 → (vp_in ((σ.1 468 18) + v6) 1000 ∧ q_X9_feed N n v1 v2 v3 v4 v5 (v6 + 1) (u_X9_feed_h0_2 N v1 v2 v3 v4 v5 v6 σ))) ∧ (¬ 16 ≤ v6 → (vp_in ((σ.1 468 18) + v6) 1000 ∧ q_X9_feed N n v1 v2 v3 v4 v5 (v6 + 1) (u_X9_feed_h0_3 N v1 v2 v3 v4 v5 v6 σ))))) ∧ (¬ 12 ≤ v6 → (vp_in ((σ.1 468 18) + v6) 1000 ∧ q_X9_feed N n v1 v2 v3 v4 v5 (v6 + 1) (u_X9_feed_h0_4 N v1 v2 v3 v4 v5 v6 σ))))) ∧ (¬ 8 ≤ v6 → (vp_in ((σ.1 468 18) + v6) 1000 ∧ q_X9_feed N n v1 v2 v3 v4 v5 (v6 + 1) (u_X9_feed_h0_5 N v1 v2 v3 v4 v5 v6 σ))))) ∧ (¬ 4 ≤ v6 → (vp_in ((σ.1 468 18) + v6) 1000 ∧ q_X9_feed N n v1 v2 v3 v4 v5 (v6 + 1) (u_X9_feed_h0_6 N v1 v2 v3 v4 v5 v6 σ))))
set_option maxRecDepth 100000 in
set_option maxHeartbeats 1000000 in
theorem w_X9_feed {nx : Nat} (N : Nat) : ∀ n : Nat, (∀ (v1 : Int32) (v2 : Int32) (v3 : Int32) (v4 : Int32) (v5 : Int32) (v6 : Int32) (σ : zS), q_X9_feed N n v1 v2 v3 v4 v5 v6 σ → zWp 1 zall nx 156 (fun v σ1 => v = some (.inl ((l_X9_feed N n v1 v2 v3 v4 v5 v6 σ).1)) ∧ σ1 = (l_X9_feed N n v1 v2 v3 v4 v5 v6 σ).2) zall nx 18 [some (.inr (9, 57, 468)), some (.inl v1), some (.inl v2), some (.inl v3), some (.inl v4), some (.inl v5), some (.inl v6), none] [] σ) := by
  intro n
  induction n with
  | zero => exact fun _ _ _ _ _ _ _ h => h.elim
  | succ n ih =>
    intro v1 v2 v3 v4 v5 v6 σ hp
    rw [q_X9_feed] at hp
    refine zvc_sound (cd := kX9_feed) (cs := [18]) rfl okX9_feed 1000 _ _ 18 (zseek kX9_feed 18) _ _ _ zseek_sub ?_
    refine And.intro (fun (h1 : 20 ≤ v6) => ?_) (fun (h1 : ¬ 20 ≤ v6) => ?_)
    · exact And.intro rfl (And.intro rfl ⟨by rw [l_X9_feed, if_pos h1] <;> rfl, by rw [l_X9_feed, if_pos h1] <;> rfl⟩)
    · refine And.intro (fun (h2 : 4 ≤ v6) => ?_) (fun (h2 : ¬ 4 ≤ v6) => ?_)
      · refine And.intro (fun (h3 : 8 ≤ v6) => ?_) (fun (h3 : ¬ 8 ≤ v6) => ?_)
        · refine And.intro (fun (h4 : 12 ≤ v6) => ?_) (fun (h4 : ¬ 12 ≤ v6) => ?_)
          · refine And.intro (fun (h5 : 16 ≤ v6) => ?_) (fun (h5 : ¬ 16 ≤ v6) => ?_)
            · refine And.intro (((((hp h1).1 h2).1 h3).1 h4).1 h5).1 ?_
              refine zWp.use (ih v1 v2 v3 v4 v5 (v6 + 1) (u_X9_feed_h0_2 N v1 v2 v3 v4 v5 v6 σ) (((((hp h1).1 h2).1 h3).1 h4).1 h5).2) (And.intro rfl (And.intro rfl (And.intro rfl (And.intro rfl (And.intro rfl (And.intro rfl (And.intro rfl trivial))))))) (fun v9 σ9 h9 => ?_)
              rw [l_X9_feed, if_neg h1, if_pos h2, if_pos h3, if_pos h4, if_pos h5]; exact h9
            · refine And.intro (((((hp h1).1 h2).1 h3).1 h4).2 h5).1 ?_
              refine zWp.use (ih v1 v2 v3 v4 v5 (v6 + 1) (u_X9_feed_h0_3 N v1 v2 v3 v4 v5 v6 σ) (((((hp h1).1 h2).1 h3).1 h4).2 h5).2) (And.intro rfl (And.intro rfl (And.intro rfl (And.intro rfl (And.intro rfl (And.intro rfl (And.intro rfl trivial))))))) (fun v9 σ9 h9 => ?_)
              rw [l_X9_feed, if_neg h1, if_pos h2, if_pos h3, if_pos h4, if_neg h5]; exact h9
          · refine And.intro ((((hp h1).1 h2).1 h3).2 h4).1 ?_
            refine zWp.use (ih v1 v2 v3 v4 v5 (v6 + 1) (u_X9_feed_h0_4 N v1 v2 v3 v4 v5 v6 σ) ((((hp h1).1 h2).1 h3).2 h4).2) (And.intro rfl (And.intro rfl (And.intro rfl (And.intro rfl (And.intro rfl (And.intro rfl (And.intro rfl trivial))))))) (fun v9 σ9 h9 => ?_)
            rw [l_X9_feed, if_neg h1, if_pos h2, if_pos h3, if_neg h4]; exact h9
        · refine And.intro (((hp h1).1 h2).2 h3).1 ?_
          refine zWp.use (ih v1 v2 v3 v4 v5 (v6 + 1) (u_X9_feed_h0_5 N v1 v2 v3 v4 v5 v6 σ) (((hp h1).1 h2).2 h3).2) (And.intro rfl (And.intro rfl (And.intro rfl (And.intro rfl (And.intro rfl (And.intro rfl (And.intro rfl trivial))))))) (fun v9 σ9 h9 => ?_)
          rw [l_X9_feed, if_neg h1, if_pos h2, if_neg h3]; exact h9
      · refine And.intro ((hp h1).2 h2).1 ?_
        refine zWp.use (ih v1 v2 v3 v4 v5 (v6 + 1) (u_X9_feed_h0_6 N v1 v2 v3 v4 v5 v6 σ) ((hp h1).2 h2).2) (And.intro rfl (And.intro rfl (And.intro rfl (And.intro rfl (And.intro rfl (And.intro rfl (And.intro rfl trivial))))))) (fun v9 σ9 h9 => ?_)
        rw [l_X9_feed, if_neg h1, if_neg h2]; exact h9
def r_X9_feed (x1 : Int32) (x2 : Int32) (x3 : Int32) (x4 : Int32) (x5 : Int32) (N : Nat) (σ : zS) : Int32 × zS := if ((σ.1 468 18) + 20) ≤ 1000 then (l_X9_feed N N x1 x2 x3 x4 x5 0 σ) else (-1, σ)
def p_X9_feed (x1 : Int32) (x2 : Int32) (x3 : Int32) (x4 : Int32) (x5 : Int32) (N : Nat) (σ : zS) : Prop := ((σ.1 468 18) + 20) ≤ 1000 → q_X9_feed N N x1 x2 x3 x4 x5 0 σ
set_option maxRecDepth 100000 in
set_option maxHeartbeats 1000000 in
theorem c_X9_feed {nx : Nat} (x1 : Int32) (x2 : Int32) (x3 : Int32) (x4 : Int32) (x5 : Int32) (N : Nat) (σ : zS) (hp : p_X9_feed x1 x2 x3 x4 x5 N σ) : zCl 1 zall nx zall nx 156 [.inr (9, 57, 468), .inl x1, .inl x2, .inl x3, .inl x4, .inl x5] σ (fun v σ1 => v = some (.inl ((r_X9_feed x1 x2 x3 x4 x5 N σ).1)) ∧ σ1 = (r_X9_feed x1 x2 x3 x4 x5 N σ).2) := by
  refine zmeth (cd := kX9_feed) [18] 1000 (Nat.le_of_ble_eq_true rfl) rfl okX9_feed (Nat.le_refl _) (Nat.le_of_ble_eq_true rfl) ?_
  refine And.intro (fun (h1 : ((σ.1 468 18) + 20) ≤ 1000) => ?_) (fun (h1 : ¬ ((σ.1 468 18) + 20) ≤ 1000) => ?_)
  · refine zWp.use ((w_X9_feed N N) x1 x2 x3 x4 x5 0 σ (hp h1)) (And.intro rfl (And.intro rfl (And.intro rfl (And.intro rfl (And.intro rfl (And.intro rfl (And.intro rfl trivial))))))) (fun v9 σ9 h9 => ?_)
    rw [r_X9_feed, if_pos h1]; exact h9
  · exact And.intro rfl (And.intro rfl ⟨by rw [r_X9_feed, if_neg h1] <;> rfl, by rw [r_X9_feed, if_neg h1] <;> rfl⟩)
def f_X9_signAt (x1 : Int32) (σ : zS) : Int32 := if (σ.1 468 19) ≤ x1 then 0 else (σ.1 485 (x1).toNatClampNeg)
def p_X9_signAt (x1 : Int32) (σ : zS) : Prop := ¬ (σ.1 468 19) ≤ x1 → vp_in x1 1000
set_option maxRecDepth 100000 in
set_option maxHeartbeats 1000000 in
theorem c_X9_signAt {nx : Nat} (x1 : Int32) (σ : zS) (hp : p_X9_signAt x1 σ) : zCl 1 zall nx zall nx 158 [.inr (9, 57, 468), .inl x1] σ (fun v σ1 => v = some (.inl (f_X9_signAt x1 σ)) ∧ σ1 = σ) := by
  refine zmeth (cd := kX9_signAt) [] 1000 (Nat.le_of_ble_eq_true rfl) rfl okX9_signAt (Nat.le_refl _) (Nat.le_of_ble_eq_true rfl) ?_
  refine And.intro (fun (h1 : (σ.1 468 19) ≤ x1) => ?_) (fun (h1 : ¬ (σ.1 468 19) ≤ x1) => ?_)
  · exact And.intro rfl (And.intro rfl ⟨by rw [f_X9_signAt, if_pos h1] <;> rfl, rfl⟩)
  · refine And.intro (hp h1) ?_
    exact And.intro rfl (And.intro rfl ⟨by rw [f_X9_signAt, if_neg h1] <;> rfl, rfl⟩)
def f_X9_isLetter (x1 : Int32) : Int32 := if x1 < 97 then 0 else (if 122 < x1 then 0 else 1)
set_option maxRecDepth 100000 in
set_option maxHeartbeats 1000000 in
theorem c_X9_isLetter {cp : Nat → Bool} {nx : Nat} (x1 : Int32) (σ : zS) : zCl 1 cp nx cp nx 159 [.inl x1] σ (fun v σ1 => v = some (.inl (f_X9_isLetter x1)) ∧ σ1 = σ) := by
  refine zmeth (cd := kX9_isLetter) [] 1000 (Nat.le_of_ble_eq_true rfl) rfl okX9_isLetter (Nat.le_refl _) (Nat.le_of_ble_eq_true rfl) ?_
  refine And.intro (fun (h1 : x1 < 97) => ?_) (fun (h1 : ¬ x1 < 97) => ?_)
  · exact And.intro rfl (And.intro rfl (And.intro (Or.inl rfl) ⟨by rw [f_X9_isLetter, if_pos h1] <;> rfl, rfl⟩))
  · refine And.intro (fun (h2 : 122 < x1) => ?_) (fun (h2 : ¬ 122 < x1) => ?_)
    · exact And.intro rfl (And.intro rfl (And.intro (Or.inl rfl) ⟨by rw [f_X9_isLetter, if_neg h1, if_pos h2] <;> rfl, rfl⟩))
    · exact And.intro rfl (And.intro rfl (And.intro (Or.inr rfl) ⟨by rw [f_X9_isLetter, if_neg h1, if_neg h2] <;> rfl, rfl⟩))
theorem b_X9_isLetter {x1 : Int32} : f_X9_isLetter x1 = 0 ∨ f_X9_isLetter x1 = 1 := by
  unfold f_X9_isLetter
  (repeat' split) <;> first | exact Or.inl rfl | exact Or.inr rfl
def f_X9_isDigit (x1 : Int32) : Int32 := if x1 < 48 then 0 else (if 57 < x1 then 0 else 1)
set_option maxRecDepth 100000 in
set_option maxHeartbeats 1000000 in
theorem c_X9_isDigit {cp : Nat → Bool} {nx : Nat} (x1 : Int32) (σ : zS) : zCl 1 cp nx cp nx 160 [.inl x1] σ (fun v σ1 => v = some (.inl (f_X9_isDigit x1)) ∧ σ1 = σ) := by
  refine zmeth (cd := kX9_isDigit) [] 1000 (Nat.le_of_ble_eq_true rfl) rfl okX9_isDigit (Nat.le_refl _) (Nat.le_of_ble_eq_true rfl) ?_
  refine And.intro (fun (h1 : x1 < 48) => ?_) (fun (h1 : ¬ x1 < 48) => ?_)
  · exact And.intro rfl (And.intro rfl (And.intro (Or.inl rfl) ⟨by rw [f_X9_isDigit, if_pos h1] <;> rfl, rfl⟩))
  · refine And.intro (fun (h2 : 57 < x1) => ?_) (fun (h2 : ¬ 57 < x1) => ?_)
    · exact And.intro rfl (And.intro rfl (And.intro (Or.inl rfl) ⟨by rw [f_X9_isDigit, if_neg h1, if_pos h2] <;> rfl, rfl⟩))
    · exact And.intro rfl (And.intro rfl (And.intro (Or.inr rfl) ⟨by rw [f_X9_isDigit, if_neg h1, if_neg h2] <;> rfl, rfl⟩))
theorem b_X9_isDigit {x1 : Int32} : f_X9_isDigit x1 = 0 ∨ f_X9_isDigit x1 = 1 := by
  unfold f_X9_isDigit
  (repeat' split) <;> first | exact Or.inl rfl | exact Or.inr rfl
def f_X9_isSign (x1 : Int32) : Int32 := if x1 = 59 then 1 else (if x1 = 61 then 1 else (if x1 = 40 then 1 else (if x1 = 41 then 1 else (if x1 = 44 then 1 else (if x1 = 43 then 1 else (if x1 = 45 then 1 else (if x1 = 42 then 1 else (if x1 = 47 then 1 else (if x1 = 37 then 1 else (if x1 = 60 then 1 else (if x1 = 62 then 1 else 0)))))))))))
set_option maxRecDepth 100000 in
set_option maxHeartbeats 1000000 in
theorem c_X9_isSign {cp : Nat → Bool} {nx : Nat} (x1 : Int32) (σ : zS) : zCl 1 cp nx cp nx 161 [.inl x1] σ (fun v σ1 => v = some (.inl (f_X9_isSign x1)) ∧ σ1 = σ) := by
  refine zmeth (cd := kX9_isSign) [] 1000 (Nat.le_of_ble_eq_true rfl) rfl okX9_isSign (Nat.le_refl _) (Nat.le_of_ble_eq_true rfl) ?_
  refine And.intro (fun (h1 : x1 = 59) => ?_) (fun (h1 : ¬ x1 = 59) => ?_)
  · exact And.intro rfl (And.intro rfl (And.intro (Or.inr rfl) ⟨by rw [f_X9_isSign, if_pos h1] <;> rfl, rfl⟩))
  · refine And.intro (fun (h2 : x1 = 61) => ?_) (fun (h2 : ¬ x1 = 61) => ?_)
    · exact And.intro rfl (And.intro rfl (And.intro (Or.inr rfl) ⟨by rw [f_X9_isSign, if_neg h1, if_pos h2] <;> rfl, rfl⟩))
    · refine And.intro (fun (h3 : x1 = 40) => ?_) (fun (h3 : ¬ x1 = 40) => ?_)
      · exact And.intro rfl (And.intro rfl (And.intro (Or.inr rfl) ⟨by rw [f_X9_isSign, if_neg h1, if_neg h2, if_pos h3] <;> rfl, rfl⟩))
      · refine And.intro (fun (h4 : x1 = 41) => ?_) (fun (h4 : ¬ x1 = 41) => ?_)
        · exact And.intro rfl (And.intro rfl (And.intro (Or.inr rfl) ⟨by rw [f_X9_isSign, if_neg h1, if_neg h2, if_neg h3, if_pos h4] <;> rfl, rfl⟩))
        · refine And.intro (fun (h5 : x1 = 44) => ?_) (fun (h5 : ¬ x1 = 44) => ?_)
          · exact And.intro rfl (And.intro rfl (And.intro (Or.inr rfl) ⟨by rw [f_X9_isSign, if_neg h1, if_neg h2, if_neg h3, if_neg h4, if_pos h5] <;> rfl, rfl⟩))
          · refine And.intro (fun (h6 : x1 = 43) => ?_) (fun (h6 : ¬ x1 = 43) => ?_)
            · exact And.intro rfl (And.intro rfl (And.intro (Or.inr rfl) ⟨by rw [f_X9_isSign, if_neg h1, if_neg h2, if_neg h3, if_neg h4, if_neg h5, if_pos h6] <;> rfl, rfl⟩))
            · refine And.intro (fun (h7 : x1 = 45) => ?_) (fun (h7 : ¬ x1 = 45) => ?_)
              · exact And.intro rfl (And.intro rfl (And.intro (Or.inr rfl) ⟨by rw [f_X9_isSign, if_neg h1, if_neg h2, if_neg h3, if_neg h4, if_neg h5, if_neg h6, if_pos h7] <;> rfl, rfl⟩))
              · refine And.intro (fun (h8 : x1 = 42) => ?_) (fun (h8 : ¬ x1 = 42) => ?_)
                · exact And.intro rfl (And.intro rfl (And.intro (Or.inr rfl) ⟨by rw [f_X9_isSign, if_neg h1, if_neg h2, if_neg h3, if_neg h4, if_neg h5, if_neg h6, if_neg h7, if_pos h8] <;> rfl, rfl⟩))
                · refine And.intro (fun (h9 : x1 = 47) => ?_) (fun (h9 : ¬ x1 = 47) => ?_)
                  · exact And.intro rfl (And.intro rfl (And.intro (Or.inr rfl) ⟨by rw [f_X9_isSign, if_neg h1, if_neg h2, if_neg h3, if_neg h4, if_neg h5, if_neg h6, if_neg h7, if_neg h8, if_pos h9] <;> rfl, rfl⟩))
                  · refine And.intro (fun (h10 : x1 = 37) => ?_) (fun (h10 : ¬ x1 = 37) => ?_)
                    · exact And.intro rfl (And.intro rfl (And.intro (Or.inr rfl) ⟨by rw [f_X9_isSign, if_neg h1, if_neg h2, if_neg h3, if_neg h4, if_neg h5, if_neg h6, if_neg h7, if_neg h8, if_neg h9, if_pos h10] <;> rfl, rfl⟩))
                    · refine And.intro (fun (h11 : x1 = 60) => ?_) (fun (h11 : ¬ x1 = 60) => ?_)
                      · exact And.intro rfl (And.intro rfl (And.intro (Or.inr rfl) ⟨by rw [f_X9_isSign, if_neg h1, if_neg h2, if_neg h3, if_neg h4, if_neg h5, if_neg h6, if_neg h7, if_neg h8, if_neg h9, if_neg h10, if_pos h11] <;> rfl, rfl⟩))
                      · refine And.intro (fun (h12 : ¬ x1 = 62) => ?_) (fun (h12 : x1 = 62) => ?_)
                        · exact And.intro rfl (And.intro rfl (And.intro (Or.inl rfl) ⟨by rw [f_X9_isSign, if_neg h1, if_neg h2, if_neg h3, if_neg h4, if_neg h5, if_neg h6, if_neg h7, if_neg h8, if_neg h9, if_neg h10, if_neg h11, if_neg h12] <;> rfl, rfl⟩))
                        · exact And.intro rfl (And.intro rfl (And.intro (Or.inr rfl) ⟨by rw [f_X9_isSign, if_neg h1, if_neg h2, if_neg h3, if_neg h4, if_neg h5, if_neg h6, if_neg h7, if_neg h8, if_neg h9, if_neg h10, if_neg h11, if_pos h12] <;> rfl, rfl⟩))
theorem b_X9_isSign {x1 : Int32} : f_X9_isSign x1 = 0 ∨ f_X9_isSign x1 = 1 := by
  unfold f_X9_isSign
  (repeat' split) <;> first | exact Or.inl rfl | exact Or.inr rfl
def f_X9_isBlank (x1 : Int32) (σ : zS) : Int32 := if (σ.1 468 19) ≤ x1 then 0 else (if (σ.1 485 (x1).toNatClampNeg) = 32 then 1 else (if (σ.1 485 (x1).toNatClampNeg) = 10 then 1 else 0))
def p_X9_isBlank (x1 : Int32) (σ : zS) : Prop := ¬ (σ.1 468 19) ≤ x1 → vp_in x1 1000
set_option maxRecDepth 100000 in
set_option maxHeartbeats 1000000 in
theorem c_X9_isBlank {nx : Nat} (x1 : Int32) (σ : zS) (hp : p_X9_isBlank x1 σ) : zCl 1 zall nx zall nx 162 [.inr (9, 57, 468), .inl x1] σ (fun v σ1 => v = some (.inl (f_X9_isBlank x1 σ)) ∧ σ1 = σ) := by
  refine zmeth (cd := kX9_isBlank) [] 1000 (Nat.le_of_ble_eq_true rfl) rfl okX9_isBlank (Nat.le_refl _) (Nat.le_of_ble_eq_true rfl) ?_
  refine And.intro (fun (h1 : (σ.1 468 19) ≤ x1) => ?_) (fun (h1 : ¬ (σ.1 468 19) ≤ x1) => ?_)
  · exact And.intro rfl (And.intro rfl (And.intro (Or.inl rfl) ⟨by rw [f_X9_isBlank, if_pos h1] <;> rfl, rfl⟩))
  · refine And.intro (hp h1) ?_
    refine And.intro (fun (h2 : (σ.1 485 (x1).toNatClampNeg) = 32) => ?_) (fun (h2 : ¬ (σ.1 485 (x1).toNatClampNeg) = 32) => ?_)
    · exact And.intro rfl (And.intro rfl (And.intro (Or.inr rfl) ⟨by rw [f_X9_isBlank, if_neg h1, if_pos h2] <;> rfl, rfl⟩))
    · refine And.intro (hp h1) ?_
      refine And.intro (fun (h3 : ¬ (σ.1 485 (x1).toNatClampNeg) = 10) => ?_) (fun (h3 : (σ.1 485 (x1).toNatClampNeg) = 10) => ?_)
      · exact And.intro rfl (And.intro rfl (And.intro (Or.inl rfl) ⟨by rw [f_X9_isBlank, if_neg h1, if_neg h2, if_neg h3] <;> rfl, rfl⟩))
      · exact And.intro rfl (And.intro rfl (And.intro (Or.inr rfl) ⟨by rw [f_X9_isBlank, if_neg h1, if_neg h2, if_pos h3] <;> rfl, rfl⟩))
theorem b_X9_isBlank {x1 : Int32} {σ : zS} : f_X9_isBlank x1 σ = 0 ∨ f_X9_isBlank x1 σ = 1 := by
  unfold f_X9_isBlank
  (repeat' split) <;> first | exact Or.inl rfl | exact Or.inr rfl
def l_X9_isSame (N : Nat) : Nat → Int32 → Int32 → Int32 → zS → Int32
  | 0, _, _, _, σ => 0
  | n + 1, v1, v2, v3, σ => if (v2 - v1) ≤ v3 then 1 else (if (σ.1 486 (v1 + v3).toNatClampNeg) = (σ.1 485 ((σ.1 468 21) + v3).toNatClampNeg) then (l_X9_isSame N n v1 v2 (v3 + 1) σ) else 0)
def q_X9_isSame (N : Nat) : Nat → Int32 → Int32 → Int32 → zS → Prop
  | 0, _, _, _, _ => False
  | n + 1, v1, v2, v3, σ => ¬ (v2 - v1) ≤ v3 → (vp_in (v1 + v3) 78 ∧ (vp_in ((σ.1 468 21) + v3) 1000 ∧ ((σ.1 486 (v1 + v3).toNatClampNeg) = (σ.1 485 ((σ.1 468 21) + v3).toNatClampNeg) → q_X9_isSame N n v1 v2 (v3 + 1) σ)))
set_option maxRecDepth 100000 in
set_option maxHeartbeats 1000000 in
theorem w_X9_isSame {nx : Nat} (N : Nat) : ∀ n : Nat, (∀ (v1 : Int32) (v2 : Int32) (v3 : Int32) (σ : zS), q_X9_isSame N n v1 v2 v3 σ → zWp 1 zall nx 165 (fun v σ1 => v = some (.inl (l_X9_isSame N n v1 v2 v3 σ)) ∧ σ1 = σ) zall nx 19 [some (.inr (9, 57, 468)), some (.inl v1), some (.inl v2), some (.inl v3)] [] σ) := by
  intro n
  induction n with
  | zero => exact fun _ _ _ _ h => h.elim
  | succ n ih =>
    intro v1 v2 v3 σ hp
    rw [q_X9_isSame] at hp
    refine zvc_sound (cd := kX9_isSame) (cs := [19]) rfl okX9_isSame 1000 _ _ 19 (zseek kX9_isSame 19) _ _ _ zseek_sub ?_
    refine And.intro (fun (h1 : (v2 - v1) ≤ v3) => ?_) (fun (h1 : ¬ (v2 - v1) ≤ v3) => ?_)
    · exact And.intro rfl (And.intro rfl (And.intro (Or.inr rfl) ⟨by rw [l_X9_isSame, if_pos h1] <;> rfl, rfl⟩))
    · refine And.intro (hp h1).1 ?_
      refine And.intro (hp h1).2.1 ?_
      refine And.intro (fun (h2 : (σ.1 486 (v1 + v3).toNatClampNeg) = (σ.1 485 ((σ.1 468 21) + v3).toNatClampNeg)) => ?_) (fun (h2 : ¬ (σ.1 486 (v1 + v3).toNatClampNeg) = (σ.1 485 ((σ.1 468 21) + v3).toNatClampNeg)) => ?_)
      · refine zWp.use (ih v1 v2 (v3 + 1) σ ((hp h1).2.2 h2)) (And.intro rfl (And.intro rfl (And.intro rfl (And.intro rfl trivial)))) (fun v9 σ9 h9 => ?_)
        rw [l_X9_isSame, if_neg h1, if_pos h2]; exact h9
      · exact And.intro rfl (And.intro rfl (And.intro (Or.inl rfl) ⟨by rw [l_X9_isSame, if_neg h1, if_neg h2] <;> rfl, rfl⟩))
def f_X9_isSame (x1 : Int32) (x2 : Int32) (N : Nat) (σ : zS) : Int32 := if (x2 - x1) = ((σ.1 468 20) - (σ.1 468 21)) then (l_X9_isSame N N x1 x2 0 σ) else 0
def p_X9_isSame (x1 : Int32) (x2 : Int32) (N : Nat) (σ : zS) : Prop := (x2 - x1) = ((σ.1 468 20) - (σ.1 468 21)) → q_X9_isSame N N x1 x2 0 σ
set_option maxRecDepth 100000 in
set_option maxHeartbeats 1000000 in
theorem c_X9_isSame {nx : Nat} (x1 : Int32) (x2 : Int32) (N : Nat) (σ : zS) (hp : p_X9_isSame x1 x2 N σ) : zCl 1 zall nx zall nx 165 [.inr (9, 57, 468), .inl x1, .inl x2] σ (fun v σ1 => v = some (.inl (f_X9_isSame x1 x2 N σ)) ∧ σ1 = σ) := by
  refine zmeth (cd := kX9_isSame) [19] 1000 (Nat.le_of_ble_eq_true rfl) rfl okX9_isSame (Nat.le_refl _) (Nat.le_of_ble_eq_true rfl) ?_
  refine And.intro (fun (h1 : (x2 - x1) = ((σ.1 468 20) - (σ.1 468 21))) => ?_) (fun (h1 : ¬ (x2 - x1) = ((σ.1 468 20) - (σ.1 468 21))) => ?_)
  · refine zWp.use ((w_X9_isSame N N) x1 x2 0 σ (hp h1)) (And.intro rfl (And.intro rfl (And.intro rfl (And.intro rfl trivial)))) (fun v9 σ9 h9 => ?_)
    rw [f_X9_isSame, if_pos h1]; exact h9
  · exact And.intro rfl (And.intro rfl (And.intro (Or.inl rfl) ⟨by rw [f_X9_isSame, if_neg h1] <;> rfl, rfl⟩))
def u_X9_scanNumber_h0_1 (N : Nat) (σ : zS) : zS := zuI σ 468 23 (((10 * (σ.1 468 23)) + (f_X9_signAt (σ.1 468 20) σ)) - 48)
def u_X9_scanNumber_h0_2 (N : Nat) (σ : zS) : zS := zuI (u_X9_scanNumber_h0_1 N σ) 468 20 (((u_X9_scanNumber_h0_1 N σ).1 468 20) + 1)
def u_X9_scanNumber_h0_3 (N : Nat) (σ : zS) : zS := zuI σ 468 23 (σ.1 468 23)
def u_X9_scanNumber_h0_4 (N : Nat) (σ : zS) : zS := zuI (u_X9_scanNumber_h0_3 N σ) 468 20 (((u_X9_scanNumber_h0_3 N σ).1 468 20) + 1)
def l_X9_scanNumber (N : Nat) : Nat → zS → zS
  | 0, σ => σ
  | n + 1, σ => if (f_X9_isDigit (f_X9_signAt (σ.1 468 20) σ)) = 0 then σ else (if (σ.1 468 23) ≤ 9999 then (l_X9_scanNumber N n (u_X9_scanNumber_h0_2 N σ)) else (l_X9_scanNumber N n (u_X9_scanNumber_h0_4 N σ)))
def q_X9_scanNumber (N : Nat) : Nat → zS → Prop
  | 0, _ => False
  | n + 1, σ => p_X9_signAt (σ.1 468 20) σ ∧ (¬ (f_X9_isDigit (f_X9_signAt (σ.1 468 20) σ)) = 0 → (((σ.1 468 23) ≤ 9999 → (p_X9_signAt (σ.1 468 20) σ ∧ q_X9_scanNumber N n (u_X9_scanNumber_h0_2 N σ))) ∧ (¬ (σ.1 468 23) ≤ 9999 → q_X9_scanNumber N n (u_X9_scanNumber_h0_4 N σ))))
set_option maxRecDepth 100000 in
set_option maxHeartbeats 1000000 in
theorem w_X9_scanNumber {nx : Nat} (N : Nat) : ∀ n : Nat, (∀ (σ : zS), q_X9_scanNumber N n σ → zWp 2 zall nx 166 (fun v σ1 => v = none ∧ σ1 = l_X9_scanNumber N n σ) zall nx 18 [some (.inr (9, 57, 468))] [] σ) := by
  intro n
  induction n with
  | zero => exact fun _ h => h.elim
  | succ n ih =>
    intro σ hp
    rw [q_X9_scanNumber] at hp
    refine zvc_sound (cd := kX9_scanNumber) (cs := [18]) rfl okX9_scanNumber 1000 _ _ 18 (zseek kX9_scanNumber 18) _ _ _ zseek_sub ?_
    refine zCl.use (c_X9_signAt (σ.1 468 20) σ hp.1) (Nat.le_of_ble_eq_true rfl) ?_
    rintro _ σ8 ⟨rfl, h8⟩
    subst σ8
    refine zCl.use (c_X9_isDigit (f_X9_signAt (σ.1 468 20) σ) σ) (Nat.le_of_ble_eq_true rfl) ?_
    rintro _ σ8 ⟨rfl, h8⟩
    subst σ8
    refine And.intro (fun (h1 : (f_X9_isDigit (f_X9_signAt (σ.1 468 20) σ)) = 0) => ?_) (fun (h1 : ¬ (f_X9_isDigit (f_X9_signAt (σ.1 468 20) σ)) = 0) => ?_)
    · exact And.intro rfl (And.intro rfl ⟨rfl, by rw [l_X9_scanNumber, if_pos h1] <;> rfl⟩)
    · refine And.intro (fun (h2 : (σ.1 468 23) ≤ 9999) => ?_) (fun (h2 : ¬ (σ.1 468 23) ≤ 9999) => ?_)
      · refine zCl.use (c_X9_signAt (σ.1 468 20) σ ((hp.2 h1).1 h2).1) (Nat.le_of_ble_eq_true rfl) ?_
        rintro _ σ8 ⟨rfl, h8⟩
        subst σ8
        refine zWp.use (ih (u_X9_scanNumber_h0_2 N σ) ((hp.2 h1).1 h2).2) (And.intro rfl trivial) (fun v9 σ9 h9 => ?_)
        rw [l_X9_scanNumber, if_neg h1, if_pos h2]; exact h9
      · refine zWp.use (ih (u_X9_scanNumber_h0_4 N σ) ((hp.2 h1).2 h2)) (And.intro rfl trivial) (fun v9 σ9 h9 => ?_)
        rw [l_X9_scanNumber, if_neg h1, if_neg h2]; exact h9
def u_X9_scanNumber_1 (N : Nat) (σ : zS) : zS := zuI σ 468 22 3
def u_X9_scanNumber_2 (N : Nat) (σ : zS) : zS := zuI (u_X9_scanNumber_1 N σ) 468 23 0
def u_X9_scanNumber_3 (N : Nat) (σ : zS) : zS := zuI (u_X9_scanNumber_2 N σ) 468 20 ((u_X9_scanNumber_2 N σ).1 468 21)
def s_X9_scanNumber (N : Nat) (σ : zS) : zS := l_X9_scanNumber N N (u_X9_scanNumber_3 N σ)
def p_X9_scanNumber (N : Nat) (σ : zS) : Prop := q_X9_scanNumber N N (u_X9_scanNumber_3 N σ)
set_option maxRecDepth 100000 in
set_option maxHeartbeats 1000000 in
theorem c_X9_scanNumber {nx : Nat} (N : Nat) (σ : zS) (hp : p_X9_scanNumber N σ) : zCl 2 zall nx zall nx 166 [.inr (9, 57, 468)] σ (fun v σ1 => v = none ∧ σ1 = s_X9_scanNumber N σ) := by
  refine zmeth (cd := kX9_scanNumber) [18] 1000 (Nat.le_of_ble_eq_true rfl) rfl okX9_scanNumber (Nat.le_refl _) (Nat.le_of_ble_eq_true rfl) ?_
  refine zWp.use ((w_X9_scanNumber N N) (u_X9_scanNumber_3 N σ) hp) (And.intro rfl trivial) (fun v9 σ9 h9 => ?_)
  rw [s_X9_scanNumber]; exact h9
def u_X9_fail_1 (x1 : Int32) (σ : zS) : zS := zuI σ 468 25 x1
def u_X9_fail_2 (x1 : Int32) (σ : zS) : zS := zuI (u_X9_fail_1 x1 σ) 468 26 ((u_X9_fail_1 x1 σ).1 468 21)
def s_X9_fail (x1 : Int32) (σ : zS) : zS := if (σ.1 468 25) ≤ 0 then (u_X9_fail_2 x1 σ) else σ
set_option maxRecDepth 100000 in
set_option maxHeartbeats 1000000 in
theorem c_X9_fail {cp : Nat → Bool} {nx : Nat} (x1 : Int32) (σ : zS) : zCl 1 cp nx cp nx 167 [.inr (9, 57, 468), .inl x1] σ (fun v σ1 => v = none ∧ σ1 = s_X9_fail x1 σ) := by
  refine zmeth (cd := kX9_fail) [] 1000 (Nat.le_of_ble_eq_true rfl) rfl okX9_fail (Nat.le_refl _) (Nat.le_of_ble_eq_true rfl) ?_
  refine And.intro (fun (h1 : (σ.1 468 25) ≤ 0) => ?_) (fun (h1 : ¬ (σ.1 468 25) ≤ 0) => ?_)
  · exact And.intro rfl (And.intro rfl ⟨rfl, by rw [s_X9_fail, if_pos h1] <;> rfl⟩)
  · exact And.intro rfl (And.intro rfl ⟨rfl, by rw [s_X9_fail, if_neg h1] <;> rfl⟩)
def f_X9_isWord (x1 : Int32) (σ : zS) : Int32 := if (σ.1 468 25) = 0 then (if (σ.1 468 22) = 2 then (if (σ.1 468 24) = x1 then 1 else 0) else 0) else 0
set_option maxRecDepth 100000 in
set_option maxHeartbeats 1000000 in
theorem c_X9_isWord {cp : Nat → Bool} {nx : Nat} (x1 : Int32) (σ : zS) : zCl 1 cp nx cp nx 169 [.inr (9, 57, 468), .inl x1] σ (fun v σ1 => v = some (.inl (f_X9_isWord x1 σ)) ∧ σ1 = σ) := by
  refine zmeth (cd := kX9_isWord) [] 1000 (Nat.le_of_ble_eq_true rfl) rfl okX9_isWord (Nat.le_refl _) (Nat.le_of_ble_eq_true rfl) ?_
  refine And.intro (fun (h1 : ¬ (σ.1 468 25) = 0) => ?_) (fun (h1 : (σ.1 468 25) = 0) => ?_)
  · exact And.intro rfl (And.intro rfl (And.intro (Or.inl rfl) ⟨by rw [f_X9_isWord, if_neg h1] <;> rfl, rfl⟩))
  · refine And.intro (fun (h2 : ¬ (σ.1 468 22) = 2) => ?_) (fun (h2 : (σ.1 468 22) = 2) => ?_)
    · exact And.intro rfl (And.intro rfl (And.intro (Or.inl rfl) ⟨by rw [f_X9_isWord, if_pos h1, if_neg h2] <;> rfl, rfl⟩))
    · refine And.intro (fun (h3 : ¬ (σ.1 468 24) = x1) => ?_) (fun (h3 : (σ.1 468 24) = x1) => ?_)
      · exact And.intro rfl (And.intro rfl (And.intro (Or.inl rfl) ⟨by rw [f_X9_isWord, if_pos h1, if_pos h2, if_neg h3] <;> rfl, rfl⟩))
      · exact And.intro rfl (And.intro rfl (And.intro (Or.inr rfl) ⟨by rw [f_X9_isWord, if_pos h1, if_pos h2, if_pos h3] <;> rfl, rfl⟩))
theorem b_X9_isWord {x1 : Int32} {σ : zS} : f_X9_isWord x1 σ = 0 ∨ f_X9_isWord x1 σ = 1 := by
  unfold f_X9_isWord
  (repeat' split) <;> first | exact Or.inl rfl | exact Or.inr rfl
def f_X9_atTask (x1 : Int32) (x2 : Int32) : Int32 := (136 + (20 * x1)) + x2
set_option maxRecDepth 100000 in
set_option maxHeartbeats 1000000 in
theorem c_X9_atTask {cp : Nat → Bool} {nx : Nat} (x1 : Int32) (x2 : Int32) (σ : zS) : zCl 1 cp nx cp nx 211 [.inl x1, .inl x2] σ (fun v σ1 => v = some (.inl (f_X9_atTask x1 x2)) ∧ σ1 = σ) := by
  refine zmeth (cd := kX9_atTask) [] 1000 (Nat.le_of_ble_eq_true rfl) rfl okX9_atTask (Nat.le_refl _) (Nat.le_of_ble_eq_true rfl) ?_
  exact And.intro rfl (And.intro rfl ⟨by rw [f_X9_atTask] <;> rfl, rfl⟩)
def f_X9_frames (x1 : Int32) (σ : zS) : Int32 := σ.1 469 (f_X9_atTask x1 1).toNatClampNeg
def p_X9_frames (x1 : Int32) (σ : zS) : Prop := vp_in (f_X9_atTask x1 1) 14241
set_option maxRecDepth 100000 in
set_option maxHeartbeats 1000000 in
theorem c_X9_frames {nx : Nat} (x1 : Int32) (σ : zS) (hp : p_X9_frames x1 σ) : zCl 2 zall nx zall nx 213 [.inr (9, 57, 468), .inl x1] σ (fun v σ1 => v = some (.inl (f_X9_frames x1 σ)) ∧ σ1 = σ) := by
  refine zmeth (cd := kX9_frames) [] 1000 (Nat.le_of_ble_eq_true rfl) rfl okX9_frames (Nat.le_refl _) (Nat.le_of_ble_eq_true rfl) ?_
  refine zCl.use (c_X9_atTask x1 1 σ) (Nat.le_of_ble_eq_true rfl) ?_
  rintro _ σ8 ⟨rfl, h8⟩
  subst σ8
  refine And.intro hp ?_
  exact And.intro rfl (And.intro rfl ⟨by rw [f_X9_frames] <;> rfl, rfl⟩)
def f_X9_atFrame (x1 : Int32) (x2 : Int32) (x3 : Int32) : Int32 := (((236 + (2801 * x1)) + 1) + (6 * (x2 - 1))) + x3
set_option maxRecDepth 100000 in
set_option maxHeartbeats 1000000 in
theorem c_X9_atFrame {cp : Nat → Bool} {nx : Nat} (x1 : Int32) (x2 : Int32) (x3 : Int32) (σ : zS) : zCl 1 cp nx cp nx 215 [.inl x1, .inl x2, .inl x3] σ (fun v σ1 => v = some (.inl (f_X9_atFrame x1 x2 x3)) ∧ σ1 = σ) := by
  refine zmeth (cd := kX9_atFrame) [] 1000 (Nat.le_of_ble_eq_true rfl) rfl okX9_atFrame (Nat.le_refl _) (Nat.le_of_ble_eq_true rfl) ?_
  exact And.intro rfl (And.intro rfl ⟨by rw [f_X9_atFrame] <;> rfl, rfl⟩)
def f_X9_atStack (x1 : Int32) (x2 : Int32) : Int32 := ((236 + (2801 * x1)) + 361) + x2
set_option maxRecDepth 100000 in
set_option maxHeartbeats 1000000 in
theorem c_X9_atStack {cp : Nat → Bool} {nx : Nat} (x1 : Int32) (x2 : Int32) (σ : zS) : zCl 1 cp nx cp nx 216 [.inl x1, .inl x2] σ (fun v σ1 => v = some (.inl (f_X9_atStack x1 x2)) ∧ σ1 = σ) := by
  refine zmeth (cd := kX9_atStack) [] 1000 (Nat.le_of_ble_eq_true rfl) rfl okX9_atStack (Nat.le_refl _) (Nat.le_of_ble_eq_true rfl) ?_
  exact And.intro rfl (And.intro rfl ⟨by rw [f_X9_atStack] <;> rfl, rfl⟩)
def f_X9_atLies (x1 : Int32) : Int32 := (236 + (2801 * x1)) + 0
set_option maxRecDepth 100000 in
set_option maxHeartbeats 1000000 in
theorem c_X9_atLies {cp : Nat → Bool} {nx : Nat} (x1 : Int32) (σ : zS) : zCl 1 cp nx cp nx 217 [.inl x1] σ (fun v σ1 => v = some (.inl (f_X9_atLies x1)) ∧ σ1 = σ) := by
  refine zmeth (cd := kX9_atLies) [] 1000 (Nat.le_of_ble_eq_true rfl) rfl okX9_atLies (Nat.le_refl _) (Nat.le_of_ble_eq_true rfl) ?_
  exact And.intro rfl (And.intro rfl ⟨by rw [f_X9_atLies] <;> rfl, rfl⟩)
def u_X9_put_1 (x1 : Int32) (x2 : Int32) (σ : zS) : zS := zuI σ 469 (f_X9_atStack x1 (σ.1 469 (f_X9_atLies x1).toNatClampNeg)).toNatClampNeg x2
def u_X9_put_2 (x1 : Int32) (x2 : Int32) (σ : zS) : zS := zuI (u_X9_put_1 x1 x2 σ) 469 (f_X9_atLies x1).toNatClampNeg (((u_X9_put_1 x1 x2 σ).1 469 (f_X9_atLies x1).toNatClampNeg) + 1)
def s_X9_put (x1 : Int32) (x2 : Int32) (σ : zS) : zS := (u_X9_put_2 x1 x2 σ)
def p_X9_put (x1 : Int32) (x2 : Int32) (σ : zS) : Prop := vp_in (f_X9_atLies x1) 14241 ∧ vp_in (f_X9_atStack x1 (σ.1 469 (f_X9_atLies x1).toNatClampNeg)) 14241
set_option maxRecDepth 100000 in
set_option maxHeartbeats 1000000 in
theorem c_X9_put {nx : Nat} (x1 : Int32) (x2 : Int32) (σ : zS) (hp : p_X9_put x1 x2 σ) : zCl 2 zall nx zall nx 221 [.inr (9, 57, 468), .inl x1, .inl x2] σ (fun v σ1 => v = none ∧ σ1 = s_X9_put x1 x2 σ) := by
  refine zmeth (cd := kX9_put) [] 1000 (Nat.le_of_ble_eq_true rfl) rfl okX9_put (Nat.le_refl _) (Nat.le_of_ble_eq_true rfl) ?_
  refine zCl.use (c_X9_atLies x1 σ) (Nat.le_of_ble_eq_true rfl) ?_
  rintro _ σ8 ⟨rfl, h8⟩
  subst σ8
  refine And.intro hp.1 ?_
  refine zCl.use (c_X9_atStack x1 (σ.1 469 (f_X9_atLies x1).toNatClampNeg) σ) (Nat.le_of_ble_eq_true rfl) ?_
  rintro _ σ8 ⟨rfl, h8⟩
  subst σ8
  refine And.intro hp.2 ?_
  refine zCl.use (c_X9_atLies x1 (u_X9_put_1 x1 x2 σ)) (Nat.le_of_ble_eq_true rfl) ?_
  rintro _ σ8 ⟨rfl, h8⟩
  subst σ8
  refine And.intro hp.1 ?_
  refine And.intro hp.1 ?_
  exact And.intro rfl (And.intro rfl ⟨rfl, by rw [s_X9_put] <;> rfl⟩)
def u_X9_take_1 (x1 : Int32) (σ : zS) : zS := zuI σ 469 (f_X9_atLies x1).toNatClampNeg ((σ.1 469 (f_X9_atLies x1).toNatClampNeg) - 1)
def r_X9_take (x1 : Int32) (σ : zS) : Int32 × zS := ((u_X9_take_1 x1 σ).1 469 (f_X9_atStack x1 ((u_X9_take_1 x1 σ).1 469 (f_X9_atLies x1).toNatClampNeg)).toNatClampNeg, (u_X9_take_1 x1 σ))
def p_X9_take (x1 : Int32) (σ : zS) : Prop := vp_in (f_X9_atLies x1) 14241 ∧ vp_in (f_X9_atStack x1 ((u_X9_take_1 x1 σ).1 469 (f_X9_atLies x1).toNatClampNeg)) 14241
set_option maxRecDepth 100000 in
set_option maxHeartbeats 1000000 in
theorem c_X9_take {nx : Nat} (x1 : Int32) (σ : zS) (hp : p_X9_take x1 σ) : zCl 2 zall nx zall nx 222 [.inr (9, 57, 468), .inl x1] σ (fun v σ1 => v = some (.inl ((r_X9_take x1 σ).1)) ∧ σ1 = (r_X9_take x1 σ).2) := by
  refine zmeth (cd := kX9_take) [] 1000 (Nat.le_of_ble_eq_true rfl) rfl okX9_take (Nat.le_refl _) (Nat.le_of_ble_eq_true rfl) ?_
  refine zCl.use (c_X9_atLies x1 σ) (Nat.le_of_ble_eq_true rfl) ?_
  rintro _ σ8 ⟨rfl, h8⟩
  subst σ8
  refine And.intro hp.1 ?_
  refine And.intro hp.1 ?_
  refine zCl.use (c_X9_atLies x1 (u_X9_take_1 x1 σ)) (Nat.le_of_ble_eq_true rfl) ?_
  rintro _ σ8 ⟨rfl, h8⟩
  subst σ8
  refine And.intro hp.1 ?_
  refine zCl.use (c_X9_atStack x1 ((u_X9_take_1 x1 σ).1 469 (f_X9_atLies x1).toNatClampNeg) (u_X9_take_1 x1 σ)) (Nat.le_of_ble_eq_true rfl) ?_
  rintro _ σ8 ⟨rfl, h8⟩
  subst σ8
  refine And.intro hp.2 ?_
  exact And.intro rfl (And.intro rfl ⟨by rw [r_X9_take] <;> rfl, by rw [r_X9_take] <;> rfl⟩)
def f_X9_made (x1 : Int32) (x2 : Int32) (x3 : Int32) : Int32 := if x1 = 2 then (x2 + x3) else (if x1 = 3 then (x2 - x3) else (if x1 = 4 then (x2 * x3) else (if x1 = 5 then (if x3 = 0 then 0 else (x2 / x3)) else (if x3 = 0 then 0 else (x2 - x2 / x3 * x3)))))
def p_X9_made (x1 : Int32) (x2 : Int32) (x3 : Int32) (σ : zS) : Prop := ¬ x1 = 2 → (¬ x1 = 3 → (¬ x1 = 4 → ((x1 = 5 → (¬ x3 = 0 → ¬ x3 = 0)) ∧ (¬ x1 = 5 → (¬ x3 = 0 → ¬ x3 = 0)))))
set_option maxRecDepth 100000 in
set_option maxHeartbeats 1000000 in
theorem c_X9_made {cp : Nat → Bool} {nx : Nat} (x1 : Int32) (x2 : Int32) (x3 : Int32) (σ : zS) (hp : p_X9_made x1 x2 x3 σ) : zCl 1 cp nx cp nx 223 [.inl x1, .inl x2, .inl x3] σ (fun v σ1 => v = some (.inl (f_X9_made x1 x2 x3)) ∧ σ1 = σ) := by
  refine zmeth (cd := kX9_made) [] 1000 (Nat.le_of_ble_eq_true rfl) rfl okX9_made (Nat.le_refl _) (Nat.le_of_ble_eq_true rfl) ?_
  refine And.intro (fun (h1 : x1 = 2) => ?_) (fun (h1 : ¬ x1 = 2) => ?_)
  · exact And.intro rfl (And.intro rfl ⟨by rw [f_X9_made, if_pos h1] <;> rfl, rfl⟩)
  · refine And.intro (fun (h2 : x1 = 3) => ?_) (fun (h2 : ¬ x1 = 3) => ?_)
    · exact And.intro rfl (And.intro rfl ⟨by rw [f_X9_made, if_neg h1, if_pos h2] <;> rfl, rfl⟩)
    · refine And.intro (fun (h3 : x1 = 4) => ?_) (fun (h3 : ¬ x1 = 4) => ?_)
      · exact And.intro rfl (And.intro rfl ⟨by rw [f_X9_made, if_neg h1, if_neg h2, if_pos h3] <;> rfl, rfl⟩)
      · refine And.intro (fun (h4 : x1 = 5) => ?_) (fun (h4 : ¬ x1 = 5) => ?_)
        · refine And.intro (fun (h5 : ¬ x3 = 0) => ?_) (fun (h5 : x3 = 0) => ?_)
          · refine And.intro (((((hp h1) h2) h3).1 h4) h5) ?_
            exact And.intro rfl (And.intro rfl ⟨by rw [f_X9_made, if_neg h1, if_neg h2, if_neg h3, if_pos h4, if_neg h5] <;> rfl, rfl⟩)
          · exact And.intro rfl (And.intro rfl ⟨by rw [f_X9_made, if_neg h1, if_neg h2, if_neg h3, if_pos h4, if_pos h5] <;> rfl, rfl⟩)
        · refine And.intro (fun (h6 : ¬ x3 = 0) => ?_) (fun (h6 : x3 = 0) => ?_)
          · refine And.intro (((((hp h1) h2) h3).2 h4) h6) ?_
            exact And.intro rfl (And.intro rfl ⟨by rw [f_X9_made, if_neg h1, if_neg h2, if_neg h3, if_neg h4, if_neg h6] <;> rfl, rfl⟩)
          · exact And.intro rfl (And.intro rfl ⟨by rw [f_X9_made, if_neg h1, if_neg h2, if_neg h3, if_neg h4, if_pos h6] <;> rfl, rfl⟩)
def f_X9_holds (x1 : Int32) (x2 : Int32) (x3 : Int32) : Int32 := if x1 = 9 then (if x3 ≤ x2 then 0 else 1) else (if x1 = 10 then (if x2 ≤ x3 then 0 else 1) else (if x2 = x3 then 1 else 0))
set_option maxRecDepth 100000 in
set_option maxHeartbeats 1000000 in
theorem c_X9_holds {cp : Nat → Bool} {nx : Nat} (x1 : Int32) (x2 : Int32) (x3 : Int32) (σ : zS) : zCl 1 cp nx cp nx 224 [.inl x1, .inl x2, .inl x3] σ (fun v σ1 => v = some (.inl (f_X9_holds x1 x2 x3)) ∧ σ1 = σ) := by
  refine zmeth (cd := kX9_holds) [] 1000 (Nat.le_of_ble_eq_true rfl) rfl okX9_holds (Nat.le_refl _) (Nat.le_of_ble_eq_true rfl) ?_
  refine And.intro (fun (h1 : ¬ x1 = 9) => ?_) (fun (h1 : x1 = 9) => ?_)
  · refine And.intro (fun (h2 : ¬ x1 = 10) => ?_) (fun (h2 : x1 = 10) => ?_)
    · refine And.intro (fun (h3 : ¬ x2 = x3) => ?_) (fun (h3 : x2 = x3) => ?_)
      · exact And.intro rfl (And.intro rfl (And.intro (Or.inl rfl) ⟨by rw [f_X9_holds, if_neg h1, if_neg h2, if_neg h3] <;> rfl, rfl⟩))
      · exact And.intro rfl (And.intro rfl (And.intro (Or.inr rfl) ⟨by rw [f_X9_holds, if_neg h1, if_neg h2, if_pos h3] <;> rfl, rfl⟩))
    · refine And.intro (fun (h4 : x2 ≤ x3) => ?_) (fun (h4 : ¬ x2 ≤ x3) => ?_)
      · exact And.intro rfl (And.intro rfl (And.intro (Or.inl rfl) ⟨by rw [f_X9_holds, if_neg h1, if_pos h2, if_pos h4] <;> rfl, rfl⟩))
      · exact And.intro rfl (And.intro rfl (And.intro (Or.inr rfl) ⟨by rw [f_X9_holds, if_neg h1, if_pos h2, if_neg h4] <;> rfl, rfl⟩))
  · refine And.intro (fun (h5 : x3 ≤ x2) => ?_) (fun (h5 : ¬ x3 ≤ x2) => ?_)
    · exact And.intro rfl (And.intro rfl (And.intro (Or.inl rfl) ⟨by rw [f_X9_holds, if_pos h1, if_pos h5] <;> rfl, rfl⟩))
    · exact And.intro rfl (And.intro rfl (And.intro (Or.inr rfl) ⟨by rw [f_X9_holds, if_pos h1, if_neg h5] <;> rfl, rfl⟩))
theorem b_X9_holds {x1 : Int32} {x2 : Int32} {x3 : Int32} : f_X9_holds x1 x2 x3 = 0 ∨ f_X9_holds x1 x2 x3 = 1 := by
  unfold f_X9_holds
  (repeat' split) <;> first | exact Or.inl rfl | exact Or.inr rfl
def u_X9_doStep_1 (x1 : Int32) (x2 : Int32) (x3 : Int32) (x4 : Int32) (σ : zS) : zS := (r_X9_take x1 σ).2
def u_X9_doStep_2 (x1 : Int32) (x2 : Int32) (x3 : Int32) (x4 : Int32) (σ : zS) : zS := (r_X9_take x1 (u_X9_doStep_1 x1 x2 x3 x4 σ)).2
def u_X9_doStep_3 (x1 : Int32) (x2 : Int32) (x3 : Int32) (x4 : Int32) (σ : zS) : zS := zuI (u_X9_doStep_2 x1 x2 x3 x4 σ) 469 (f_X9_atFrame x1 x2 1).toNatClampNeg x4
def u_X9_doStep_4 (x1 : Int32) (x2 : Int32) (x3 : Int32) (x4 : Int32) (σ : zS) : zS := s_X9_put x1 (f_X9_made x3 ((r_X9_take x1 (u_X9_doStep_1 x1 x2 x3 x4 σ)).1) ((r_X9_take x1 σ).1)) (u_X9_doStep_2 x1 x2 x3 x4 σ)
def u_X9_doStep_5 (x1 : Int32) (x2 : Int32) (x3 : Int32) (x4 : Int32) (σ : zS) : zS := (r_X9_take x1 σ).2
def u_X9_doStep_6 (x1 : Int32) (x2 : Int32) (x3 : Int32) (x4 : Int32) (σ : zS) : zS := s_X9_put x1 (-((r_X9_take x1 σ).1)) (u_X9_doStep_5 x1 x2 x3 x4 σ)
def u_X9_doStep_7 (x1 : Int32) (x2 : Int32) (x3 : Int32) (x4 : Int32) (σ : zS) : zS := zuI σ 469 (f_X9_atFrame x1 x2 1).toNatClampNeg x4
def u_X9_doStep_8 (x1 : Int32) (x2 : Int32) (x3 : Int32) (x4 : Int32) (σ : zS) : zS := s_X9_put x1 (σ.1 469 (f_X9_atFrame x1 x2 (2 + x4)).toNatClampNeg) σ
def u_X9_doStep_9 (x1 : Int32) (x2 : Int32) (x3 : Int32) (x4 : Int32) (σ : zS) : zS := s_X9_put x1 x4 σ
def s_X9_doStep (x1 : Int32) (x2 : Int32) (x3 : Int32) (x4 : Int32) (σ : zS) : zS := if x3 = 0 then (u_X9_doStep_9 x1 x2 x3 x4 σ) else (if x3 = 1 then (u_X9_doStep_8 x1 x2 x3 x4 σ) else (if x3 = 12 then (u_X9_doStep_7 x1 x2 x3 x4 σ) else (if x3 = 7 then (u_X9_doStep_6 x1 x2 x3 x4 σ) else (if 6 < x3 then (if (f_X9_holds x3 ((r_X9_take x1 (u_X9_doStep_1 x1 x2 x3 x4 σ)).1) ((r_X9_take x1 σ).1)) = 0 then (u_X9_doStep_3 x1 x2 x3 x4 σ) else (u_X9_doStep_2 x1 x2 x3 x4 σ)) else (u_X9_doStep_4 x1 x2 x3 x4 σ)))))
def p_X9_doStep (x1 : Int32) (x2 : Int32) (x3 : Int32) (x4 : Int32) (σ : zS) : Prop := (¬ x3 = 0 → ((¬ x3 = 1 → ((¬ x3 = 12 → ((¬ x3 = 7 → (p_X9_take x1 σ ∧ (p_X9_take x1 (u_X9_doStep_1 x1 x2 x3 x4 σ) ∧ ((6 < x3 → ((f_X9_holds x3 ((r_X9_take x1 (u_X9_doStep_1 x1 x2 x3 x4 σ)).1) ((r_X9_take x1 σ).1)) = 0 → vp_in (f_X9_atFrame x1 x2 1) 14241)) ∧ (¬ 6 < x3 → (p_X9_made x3 ((r_X9_take x1 (u_X9_doStep_1 x1 x2 x3 x4 σ)).1) ((r_X9_take x1 σ).1) (u_X9_doStep_2 x1 x2 x3 x4 σ) ∧ p_X9_put x1 (f_X9_made x3 ((r_X9_take x1 (u_X9_doStep_1 x1 x2 x3 x4 σ)).1) ((r_X9_take x1 σ).1)) (u_X9_doStep_2 x1 x2 x3 x4 σ))))))) ∧ (x3 = 7 → (p_X9_take x1 σ ∧ p_X9_put x1 (-((r_X9_take x1 σ).1)) (u_X9_doStep_5 x1 x2 x3 x4 σ))))) ∧ (x3 = 12 → vp_in (f_X9_atFrame x1 x2 1) 14241))) ∧ (x3 = 1 → (vp_in (f_X9_atFrame x1 x2 (2 + x4)) 14241 ∧ p_X9_put x1 (σ.1 469 (f_X9_atFrame x1 x2 (2 + x4)).toNatClampNeg) σ)))) ∧ (x3 = 0 → p_X9_put x1 x4 σ)
set_option maxRecDepth 100000 in
set_option maxHeartbeats 1000000 in
theorem c_X9_doStep {nx : Nat} (x1 : Int32) (x2 : Int32) (x3 : Int32) (x4 : Int32) (σ : zS) (hp : p_X9_doStep x1 x2 x3 x4 σ) : zCl 3 zall nx zall nx 227 [.inr (9, 57, 468), .inl x1, .inl x2, .inl x3, .inl x4] σ (fun v σ1 => v = none ∧ σ1 = s_X9_doStep x1 x2 x3 x4 σ) := by
  refine zmeth (cd := kX9_doStep) [] 1000 (Nat.le_of_ble_eq_true rfl) rfl okX9_doStep (Nat.le_refl _) (Nat.le_of_ble_eq_true rfl) ?_
  refine And.intro (fun (h1 : ¬ x3 = 0) => ?_) (fun (h1 : x3 = 0) => ?_)
  · refine And.intro (fun (h2 : ¬ x3 = 1) => ?_) (fun (h2 : x3 = 1) => ?_)
    · refine And.intro (fun (h3 : ¬ x3 = 12) => ?_) (fun (h3 : x3 = 12) => ?_)
      · refine And.intro (fun (h4 : ¬ x3 = 7) => ?_) (fun (h4 : x3 = 7) => ?_)
        · refine zCl.use (c_X9_take x1 σ ((((hp.1 h1).1 h2).1 h3).1 h4).1) (Nat.le_of_ble_eq_true rfl) ?_
          rintro _ σ8 ⟨rfl, h8⟩
          subst σ8
          refine zCl.use (c_X9_take x1 (u_X9_doStep_1 x1 x2 x3 x4 σ) ((((hp.1 h1).1 h2).1 h3).1 h4).2.1) (Nat.le_of_ble_eq_true rfl) ?_
          rintro _ σ8 ⟨rfl, h8⟩
          subst σ8
          refine And.intro (fun (h5 : 6 < x3) => ?_) (fun (h5 : ¬ 6 < x3) => ?_)
          · refine zCl.use (c_X9_holds x3 ((r_X9_take x1 (u_X9_doStep_1 x1 x2 x3 x4 σ)).1) ((r_X9_take x1 σ).1) (u_X9_doStep_2 x1 x2 x3 x4 σ)) (Nat.le_of_ble_eq_true rfl) ?_
            rintro _ σ8 ⟨rfl, h8⟩
            subst σ8
            refine And.intro (fun (h6 : ¬ (f_X9_holds x3 ((r_X9_take x1 (u_X9_doStep_1 x1 x2 x3 x4 σ)).1) ((r_X9_take x1 σ).1)) = 0) => ?_) (fun (h6 : (f_X9_holds x3 ((r_X9_take x1 (u_X9_doStep_1 x1 x2 x3 x4 σ)).1) ((r_X9_take x1 σ).1)) = 0) => ?_)
            · exact And.intro rfl (And.intro rfl ⟨rfl, by rw [s_X9_doStep, if_neg h1, if_neg h2, if_neg h3, if_neg h4, if_pos h5, if_neg h6] <;> rfl⟩)
            · refine zCl.use (c_X9_atFrame x1 x2 1 (u_X9_doStep_2 x1 x2 x3 x4 σ)) (Nat.le_of_ble_eq_true rfl) ?_
              rintro _ σ8 ⟨rfl, h8⟩
              subst σ8
              refine And.intro ((((((hp.1 h1).1 h2).1 h3).1 h4).2.2.1 h5) h6) ?_
              exact And.intro rfl (And.intro rfl ⟨rfl, by rw [s_X9_doStep, if_neg h1, if_neg h2, if_neg h3, if_neg h4, if_pos h5, if_pos h6] <;> rfl⟩)
          · refine zCl.use (c_X9_made x3 ((r_X9_take x1 (u_X9_doStep_1 x1 x2 x3 x4 σ)).1) ((r_X9_take x1 σ).1) (u_X9_doStep_2 x1 x2 x3 x4 σ) (((((hp.1 h1).1 h2).1 h3).1 h4).2.2.2 h5).1) (Nat.le_of_ble_eq_true rfl) ?_
            rintro _ σ8 ⟨rfl, h8⟩
            subst σ8
            refine zCl.use (c_X9_put x1 (f_X9_made x3 ((r_X9_take x1 (u_X9_doStep_1 x1 x2 x3 x4 σ)).1) ((r_X9_take x1 σ).1)) (u_X9_doStep_2 x1 x2 x3 x4 σ) (((((hp.1 h1).1 h2).1 h3).1 h4).2.2.2 h5).2) (Nat.le_of_ble_eq_true rfl) ?_
            rintro _ σ8 ⟨rfl, h8⟩
            subst σ8
            exact And.intro rfl (And.intro rfl ⟨rfl, by rw [s_X9_doStep, if_neg h1, if_neg h2, if_neg h3, if_neg h4, if_neg h5] <;> rfl⟩)
        · refine zCl.use (c_X9_take x1 σ ((((hp.1 h1).1 h2).1 h3).2 h4).1) (Nat.le_of_ble_eq_true rfl) ?_
          rintro _ σ8 ⟨rfl, h8⟩
          subst σ8
          refine zCl.use (c_X9_put x1 (-((r_X9_take x1 σ).1)) (u_X9_doStep_5 x1 x2 x3 x4 σ) ((((hp.1 h1).1 h2).1 h3).2 h4).2) (Nat.le_of_ble_eq_true rfl) ?_
          rintro _ σ8 ⟨rfl, h8⟩
          subst σ8
          exact And.intro rfl (And.intro rfl ⟨rfl, by rw [s_X9_doStep, if_neg h1, if_neg h2, if_neg h3, if_pos h4] <;> rfl⟩)
      · refine zCl.use (c_X9_atFrame x1 x2 1 σ) (Nat.le_of_ble_eq_true rfl) ?_
        rintro _ σ8 ⟨rfl, h8⟩
        subst σ8
        refine And.intro (((hp.1 h1).1 h2).2 h3) ?_
        exact And.intro rfl (And.intro rfl ⟨rfl, by rw [s_X9_doStep, if_neg h1, if_neg h2, if_pos h3] <;> rfl⟩)
    · refine zCl.use (c_X9_atFrame x1 x2 (2 + x4) σ) (Nat.le_of_ble_eq_true rfl) ?_
      rintro _ σ8 ⟨rfl, h8⟩
      subst σ8
      refine And.intro ((hp.1 h1).2 h2).1 ?_
      refine zCl.use (c_X9_put x1 (σ.1 469 (f_X9_atFrame x1 x2 (2 + x4)).toNatClampNeg) σ ((hp.1 h1).2 h2).2) (Nat.le_of_ble_eq_true rfl) ?_
      rintro _ σ8 ⟨rfl, h8⟩
      subst σ8
      exact And.intro rfl (And.intro rfl ⟨rfl, by rw [s_X9_doStep, if_neg h1, if_pos h2] <;> rfl⟩)
  · refine zCl.use (c_X9_put x1 x4 σ (hp.2 h1)) (Nat.le_of_ble_eq_true rfl) ?_
    rintro _ σ8 ⟨rfl, h8⟩
    subst σ8
    exact And.intro rfl (And.intro rfl ⟨rfl, by rw [s_X9_doStep, if_pos h1] <;> rfl⟩)
def f_X0_parameter (o : Nat) (x1 : Int32) (x2 : Int32) (σ : zS) : Int32 := if x1 < 1 then 0 else (if (σ.1 o 0) < x1 then 0 else (if x2 < 0 then 0 else (if x2 < 4 then (f_X8_at 240 (o + 1) (((x1 - 1) * 4) + x2) σ) else 0)))
def p_X0_parameter (o : Nat) (x1 : Int32) (x2 : Int32) (σ : zS) : Prop := ¬ x1 < 1 → (¬ (σ.1 o 0) < x1 → (¬ x2 < 0 → (x2 < 4 → p_X8_at 240 (o + 1) (((x1 - 1) * 4) + x2) σ)))
set_option maxRecDepth 100000 in
set_option maxHeartbeats 1000000 in
theorem c_X0_parameter {nx : Nat} (o : Nat) (x1 : Int32) (x2 : Int32) (σ : zS) (hp : p_X0_parameter o x1 x2 σ) : zCl 2 zall nx zall nx 4 [.inr (0, 9, o), .inl x1, .inl x2] σ (fun v σ1 => v = some (.inl (f_X0_parameter o x1 x2 σ)) ∧ σ1 = σ) := by
  refine zmeth (cd := kX0_parameter) [] 1000 (Nat.le_of_ble_eq_true rfl) rfl okX0_parameter (Nat.le_refl _) (Nat.le_of_ble_eq_true rfl) ?_
  refine And.intro (fun (h1 : x1 < 1) => ?_) (fun (h1 : ¬ x1 < 1) => ?_)
  · exact And.intro rfl (And.intro rfl ⟨by rw [f_X0_parameter, if_pos h1] <;> rfl, rfl⟩)
  · refine And.intro (fun (h2 : (σ.1 o 0) < x1) => ?_) (fun (h2 : ¬ (σ.1 o 0) < x1) => ?_)
    · exact And.intro rfl (And.intro rfl ⟨by rw [f_X0_parameter, if_neg h1, if_pos h2] <;> rfl, rfl⟩)
    · refine And.intro (fun (h3 : x2 < 0) => ?_) (fun (h3 : ¬ x2 < 0) => ?_)
      · exact And.intro rfl (And.intro rfl ⟨by rw [f_X0_parameter, if_neg h1, if_neg h2, if_pos h3] <;> rfl, rfl⟩)
      · refine And.intro (fun (h4 : x2 < 4) => ?_) (fun (h4 : ¬ x2 < 4) => ?_)
        · refine zCl.use (c_X8_at 240 (o + 1) (((x1 - 1) * 4) + x2) σ ((((hp h1) h2) h3) h4)) (Nat.le_of_ble_eq_true rfl) ?_
          rintro _ σ8 ⟨rfl, h8⟩
          subst σ8
          exact And.intro rfl (And.intro rfl ⟨by rw [f_X0_parameter, if_neg h1, if_neg h2, if_neg h3, if_pos h4] <;> rfl, rfl⟩)
        · exact And.intro rfl (And.intro rfl ⟨by rw [f_X0_parameter, if_neg h1, if_neg h2, if_neg h3, if_neg h4] <;> rfl, rfl⟩)
def u_X0_leave_1 (o : Nat) (σ : zS) : zS := zuI σ o 0 ((σ.1 o 0) - 1)
def u_X0_leave_2 (o : Nat) (σ : zS) : zS := zuI (u_X0_leave_1 o σ) o 1 (f_X8_at 60 (o + 2) ((u_X0_leave_1 o σ).1 o 0) (u_X0_leave_1 o σ))
def u_X0_leave_3 (o : Nat) (σ : zS) : zS := (r_X0_pop o (u_X0_leave_1 o σ)).2
def u_X0_leave_4 (o : Nat) (σ : zS) : zS := zuI (u_X0_leave_3 o σ) o 3 ((r_X0_pop o (u_X0_leave_1 o σ)).1)
def u_X0_leave_5 (o : Nat) (σ : zS) : zS := zuI (u_X0_leave_1 o σ) o 5 (((u_X0_leave_1 o σ).1 o 5) + 1)
def u_X0_leave_6 (o : Nat) (σ : zS) : zS := zuI (u_X0_leave_1 o σ) o 1 (f_X8_at 60 (o + 2) ((u_X0_leave_1 o σ).1 o 0) (u_X0_leave_1 o σ))
def u_X0_leave_7 (o : Nat) (σ : zS) : zS := (r_X0_pop o (u_X0_leave_1 o σ)).2
def u_X0_leave_8 (o : Nat) (σ : zS) : zS := zuI (u_X0_leave_7 o σ) o 3 ((r_X0_pop o (u_X0_leave_1 o σ)).1)
def u_X0_leave_9 (o : Nat) (σ : zS) : zS := zuI (u_X0_leave_1 o σ) o 5 (((u_X0_leave_1 o σ).1 o 5) + 1)
def s_X0_leave (o : Nat) (σ : zS) : zS := if (zlay ((u_X0_leave_1 o σ).2 o 4 - 1)).1 = 20 then (if (Int32.ofNat ((zlay ((u_X0_leave_1 o σ).2 o 4 - 1)).2)) ≤ 0 then (if ((u_X0_leave_1 o σ).1 o 0) = 0 then (u_X0_leave_4 o σ) else (u_X0_leave_2 o σ)) else (u_X0_leave_5 o σ)) else (if (Int32.ofNat ((zlay ((u_X0_leave_1 o σ).2 o 4 - 1)).2)) ≤ 0 then (if ((u_X0_leave_1 o σ).1 o 0) = 0 then (u_X0_leave_8 o σ) else (u_X0_leave_6 o σ)) else (u_X0_leave_9 o σ))
def p_X0_leave (o : Nat) (σ : zS) : Prop := ((u_X0_leave_1 o σ).2 o 4 ≠ 0) ∧ (((zlay ((u_X0_leave_1 o σ).2 o 4 - 1)).1 = 20 → ((Int32.ofNat ((zlay ((u_X0_leave_1 o σ).2 o 4 - 1)).2)) ≤ 0 → ((¬ ((u_X0_leave_1 o σ).1 o 0) = 0 → p_X8_at 60 (o + 2) ((u_X0_leave_1 o σ).1 o 0) (u_X0_leave_1 o σ)) ∧ (((u_X0_leave_1 o σ).1 o 0) = 0 → p_X0_pop o (u_X0_leave_1 o σ))))) ∧ (¬ (zlay ((u_X0_leave_1 o σ).2 o 4 - 1)).1 = 20 → ((zlay ((u_X0_leave_1 o σ).2 o 4 - 1)).1 = 26 ∧ ((Int32.ofNat ((zlay ((u_X0_leave_1 o σ).2 o 4 - 1)).2)) ≤ 0 → ((¬ ((u_X0_leave_1 o σ).1 o 0) = 0 → p_X8_at 60 (o + 2) ((u_X0_leave_1 o σ).1 o 0) (u_X0_leave_1 o σ)) ∧ (((u_X0_leave_1 o σ).1 o 0) = 0 → p_X0_pop o (u_X0_leave_1 o σ)))))))
set_option maxRecDepth 100000 in
set_option maxHeartbeats 1000000 in
theorem c_X0_leave {nx : Nat} (o : Nat) (σ : zS) (hp : p_X0_leave o σ) : zCl 2 zall nx zall nx 9 [.inr (0, 9, o)] σ (fun v σ1 => v = none ∧ σ1 = s_X0_leave o σ) := by
  refine zmeth (cd := kX0_leave) [] 1000 (Nat.le_of_ble_eq_true rfl) rfl okX0_leave (Nat.le_refl _) (Nat.le_of_ble_eq_true rfl) ?_
  refine And.intro hp.1 (fun q901 (e1 : (u_X0_leave_1 o σ).2 o 4 = q901 + 1) => ?_)
  have g1 : q901 = ((u_X0_leave_1 o σ).2 o 4 - 1) := by omega
  subst g1
  by_cases h1 : (zlay ((u_X0_leave_1 o σ).2 o 4 - 1)).1 = 20
  · rw [h1]
    refine And.intro (fun (h2 : (Int32.ofNat ((zlay ((u_X0_leave_1 o σ).2 o 4 - 1)).2)) ≤ 0) => ?_) (fun (h2 : ¬ (Int32.ofNat ((zlay ((u_X0_leave_1 o σ).2 o 4 - 1)).2)) ≤ 0) => ?_)
    · refine And.intro (fun (h3 : ¬ ((u_X0_leave_1 o σ).1 o 0) = 0) => ?_) (fun (h3 : ((u_X0_leave_1 o σ).1 o 0) = 0) => ?_)
      · refine zCl.use (c_X8_at 60 (o + 2) ((u_X0_leave_1 o σ).1 o 0) (u_X0_leave_1 o σ) (((hp.2.1 h1) h2).1 h3)) (Nat.le_of_ble_eq_true rfl) ?_
        rintro _ σ8 ⟨rfl, h8⟩
        subst σ8
        exact And.intro rfl (And.intro rfl ⟨rfl, by rw [s_X0_leave, if_pos h1, if_pos h2, if_neg h3] <;> rfl⟩)
      · refine zCl.use (c_X0_pop o (u_X0_leave_1 o σ) (((hp.2.1 h1) h2).2 h3)) (Nat.le_of_ble_eq_true rfl) ?_
        rintro _ σ8 ⟨rfl, h8⟩
        subst σ8
        exact And.intro rfl (And.intro rfl ⟨rfl, by rw [s_X0_leave, if_pos h1, if_pos h2, if_pos h3] <;> rfl⟩)
    · exact And.intro rfl (And.intro rfl ⟨rfl, by rw [s_X0_leave, if_pos h1, if_neg h2] <;> rfl⟩)
  · rw [(hp.2.2 h1).1]
    refine And.intro (fun (h4 : (Int32.ofNat ((zlay ((u_X0_leave_1 o σ).2 o 4 - 1)).2)) ≤ 0) => ?_) (fun (h4 : ¬ (Int32.ofNat ((zlay ((u_X0_leave_1 o σ).2 o 4 - 1)).2)) ≤ 0) => ?_)
    · refine And.intro (fun (h5 : ¬ ((u_X0_leave_1 o σ).1 o 0) = 0) => ?_) (fun (h5 : ((u_X0_leave_1 o σ).1 o 0) = 0) => ?_)
      · refine zCl.use (c_X8_at 60 (o + 2) ((u_X0_leave_1 o σ).1 o 0) (u_X0_leave_1 o σ) (((hp.2.2 h1).2 h4).1 h5)) (Nat.le_of_ble_eq_true rfl) ?_
        rintro _ σ8 ⟨rfl, h8⟩
        subst σ8
        exact And.intro rfl (And.intro rfl ⟨rfl, by rw [s_X0_leave, if_neg h1, if_pos h4, if_neg h5] <;> rfl⟩)
      · refine zCl.use (c_X0_pop o (u_X0_leave_1 o σ) (((hp.2.2 h1).2 h4).2 h5)) (Nat.le_of_ble_eq_true rfl) ?_
        rintro _ σ8 ⟨rfl, h8⟩
        subst σ8
        exact And.intro rfl (And.intro rfl ⟨rfl, by rw [s_X0_leave, if_neg h1, if_pos h4, if_pos h5] <;> rfl⟩)
    · exact And.intro rfl (And.intro rfl ⟨rfl, by rw [s_X0_leave, if_neg h1, if_neg h4] <;> rfl⟩)
def u_X0_computeOfTwo_1 (o : Nat) (x1 : Int32) (x2 : Int32) (σ : zS) : zS := (r_X0_pop o σ).2
def u_X0_computeOfTwo_2 (o : Nat) (x1 : Int32) (x2 : Int32) (σ : zS) : zS := (r_X0_pop o (u_X0_computeOfTwo_1 o x1 x2 σ)).2
def u_X0_computeOfTwo_3 (o : Nat) (x1 : Int32) (x2 : Int32) (σ : zS) : zS := s_X0_push o (((r_X0_pop o (u_X0_computeOfTwo_1 o x1 x2 σ)).1) + ((r_X0_pop o σ).1)) (u_X0_computeOfTwo_2 o x1 x2 σ)
def u_X0_computeOfTwo_4 (o : Nat) (x1 : Int32) (x2 : Int32) (σ : zS) : zS := s_X0_push o (((r_X0_pop o (u_X0_computeOfTwo_1 o x1 x2 σ)).1) - ((r_X0_pop o σ).1)) (u_X0_computeOfTwo_2 o x1 x2 σ)
def u_X0_computeOfTwo_5 (o : Nat) (x1 : Int32) (x2 : Int32) (σ : zS) : zS := s_X0_push o (((r_X0_pop o (u_X0_computeOfTwo_1 o x1 x2 σ)).1) * ((r_X0_pop o σ).1)) (u_X0_computeOfTwo_2 o x1 x2 σ)
def u_X0_computeOfTwo_6 (o : Nat) (x1 : Int32) (x2 : Int32) (σ : zS) : zS := s_X0_push o (((r_X0_pop o (u_X0_computeOfTwo_1 o x1 x2 σ)).1) / ((r_X0_pop o σ).1)) (u_X0_computeOfTwo_2 o x1 x2 σ)
def u_X0_computeOfTwo_7 (o : Nat) (x1 : Int32) (x2 : Int32) (σ : zS) : zS := s_X0_push o 0 (u_X0_computeOfTwo_2 o x1 x2 σ)
def u_X0_computeOfTwo_8 (o : Nat) (x1 : Int32) (x2 : Int32) (σ : zS) : zS := s_X0_push o (((r_X0_pop o (u_X0_computeOfTwo_1 o x1 x2 σ)).1) - ((r_X0_pop o (u_X0_computeOfTwo_1 o x1 x2 σ)).1) / ((r_X0_pop o σ).1) * ((r_X0_pop o σ).1)) (u_X0_computeOfTwo_2 o x1 x2 σ)
def u_X0_computeOfTwo_9 (o : Nat) (x1 : Int32) (x2 : Int32) (σ : zS) : zS := s_X0_push o 0 (u_X0_computeOfTwo_2 o x1 x2 σ)
def u_X0_computeOfTwo_10 (o : Nat) (x1 : Int32) (x2 : Int32) (σ : zS) : zS := zuI (u_X0_computeOfTwo_2 o x1 x2 σ) o 1 x2
def u_X0_computeOfTwo_11 (o : Nat) (x1 : Int32) (x2 : Int32) (σ : zS) : zS := zuI (u_X0_computeOfTwo_2 o x1 x2 σ) o 1 ((u_X0_computeOfTwo_2 o x1 x2 σ).1 o 1)
def u_X0_computeOfTwo_12 (o : Nat) (x1 : Int32) (x2 : Int32) (σ : zS) : zS := zuI (u_X0_computeOfTwo_2 o x1 x2 σ) o 1 x2
def u_X0_computeOfTwo_13 (o : Nat) (x1 : Int32) (x2 : Int32) (σ : zS) : zS := zuI (u_X0_computeOfTwo_2 o x1 x2 σ) o 1 ((u_X0_computeOfTwo_2 o x1 x2 σ).1 o 1)
def u_X0_computeOfTwo_14 (o : Nat) (x1 : Int32) (x2 : Int32) (σ : zS) : zS := zuI (u_X0_computeOfTwo_2 o x1 x2 σ) o 1 x2
def u_X0_computeOfTwo_15 (o : Nat) (x1 : Int32) (x2 : Int32) (σ : zS) : zS := zuI (u_X0_computeOfTwo_2 o x1 x2 σ) o 1 ((u_X0_computeOfTwo_2 o x1 x2 σ).1 o 1)
def s_X0_computeOfTwo (o : Nat) (x1 : Int32) (x2 : Int32) (σ : zS) : zS := if x1 = 3 then (u_X0_computeOfTwo_3 o x1 x2 σ) else (if x1 = 4 then (u_X0_computeOfTwo_4 o x1 x2 σ) else (if x1 = 5 then (u_X0_computeOfTwo_5 o x1 x2 σ) else (if x1 = 6 then (if ((r_X0_pop o σ).1) = 0 then (u_X0_computeOfTwo_7 o x1 x2 σ) else (u_X0_computeOfTwo_6 o x1 x2 σ)) else (if x1 = 7 then (if ((r_X0_pop o σ).1) = 0 then (u_X0_computeOfTwo_9 o x1 x2 σ) else (u_X0_computeOfTwo_8 o x1 x2 σ)) else (if x1 = 8 then (if ((r_X0_pop o σ).1) ≤ ((r_X0_pop o (u_X0_computeOfTwo_1 o x1 x2 σ)).1) then (u_X0_computeOfTwo_10 o x1 x2 σ) else (u_X0_computeOfTwo_11 o x1 x2 σ)) else (if x1 = 9 then (if ((r_X0_pop o (u_X0_computeOfTwo_1 o x1 x2 σ)).1) ≤ ((r_X0_pop o σ).1) then (u_X0_computeOfTwo_12 o x1 x2 σ) else (u_X0_computeOfTwo_13 o x1 x2 σ)) else (if ((r_X0_pop o (u_X0_computeOfTwo_1 o x1 x2 σ)).1) = ((r_X0_pop o σ).1) then (u_X0_computeOfTwo_15 o x1 x2 σ) else (u_X0_computeOfTwo_14 o x1 x2 σ))))))))
def p_X0_computeOfTwo (o : Nat) (x1 : Int32) (x2 : Int32) (σ : zS) : Prop := p_X0_pop o σ ∧ (p_X0_pop o (u_X0_computeOfTwo_1 o x1 x2 σ) ∧ ((x1 = 3 → p_X0_push o (((r_X0_pop o (u_X0_computeOfTwo_1 o x1 x2 σ)).1) + ((r_X0_pop o σ).1)) (u_X0_computeOfTwo_2 o x1 x2 σ)) ∧ (¬ x1 = 3 → ((x1 = 4 → p_X0_push o (((r_X0_pop o (u_X0_computeOfTwo_1 o x1 x2 σ)).1) - ((r_X0_pop o σ).1)) (u_X0_computeOfTwo_2 o x1 x2 σ)) ∧ (¬ x1 = 4 → ((x1 = 5 → p_X0_push o (((r_X0_pop o (u_X0_computeOfTwo_1 o x1 x2 σ)).1) * ((r_X0_pop o σ).1)) (u_X0_computeOfTwo_2 o x1 x2 σ)) ∧ (¬ x1 = 5 → ((x1 = 6 → ((¬ ((r_X0_pop o σ).1) = 0 → (¬ ((r_X0_pop o σ).1) = 0 ∧ p_X0_push o (((r_X0_pop o (u_X0_computeOfTwo_1 o x1 x2 σ)).1) / ((r_X0_pop o σ).1)) (u_X0_computeOfTwo_2 o x1 x2 σ))) ∧ (((r_X0_pop o σ).1) = 0 → p_X0_push o 0 (u_X0_computeOfTwo_2 o x1 x2 σ)))) ∧ (¬ x1 = 6 → (x1 = 7 → ((¬ ((r_X0_pop o σ).1) = 0 → (¬ ((r_X0_pop o σ).1) = 0 ∧ p_X0_push o (((r_X0_pop o (u_X0_computeOfTwo_1 o x1 x2 σ)).1) - ((r_X0_pop o (u_X0_computeOfTwo_1 o x1 x2 σ)).1) / ((r_X0_pop o σ).1) * ((r_X0_pop o σ).1)) (u_X0_computeOfTwo_2 o x1 x2 σ))) ∧ (((r_X0_pop o σ).1) = 0 → p_X0_push o 0 (u_X0_computeOfTwo_2 o x1 x2 σ)))))))))))))
set_option maxRecDepth 100000 in
set_option maxHeartbeats 1000000 in
theorem c_X0_computeOfTwo {nx : Nat} (o : Nat) (x1 : Int32) (x2 : Int32) (σ : zS) (hp : p_X0_computeOfTwo o x1 x2 σ) : zCl 2 zall nx zall nx 11 [.inr (0, 9, o), .inl x1, .inl x2] σ (fun v σ1 => v = none ∧ σ1 = s_X0_computeOfTwo o x1 x2 σ) := by
  refine zmeth (cd := kX0_computeOfTwo) [] 1000 (Nat.le_of_ble_eq_true rfl) rfl okX0_computeOfTwo (Nat.le_refl _) (Nat.le_of_ble_eq_true rfl) ?_
  refine zCl.use (c_X0_pop o σ hp.1) (Nat.le_of_ble_eq_true rfl) ?_
  rintro _ σ8 ⟨rfl, h8⟩
  subst σ8
  refine zCl.use (c_X0_pop o (u_X0_computeOfTwo_1 o x1 x2 σ) hp.2.1) (Nat.le_of_ble_eq_true rfl) ?_
  rintro _ σ8 ⟨rfl, h8⟩
  subst σ8
  refine And.intro (fun (h1 : x1 = 3) => ?_) (fun (h1 : ¬ x1 = 3) => ?_)
  · refine zCl.use (c_X0_push o (((r_X0_pop o (u_X0_computeOfTwo_1 o x1 x2 σ)).1) + ((r_X0_pop o σ).1)) (u_X0_computeOfTwo_2 o x1 x2 σ) (hp.2.2.1 h1)) (Nat.le_of_ble_eq_true rfl) ?_
    rintro _ σ8 ⟨rfl, h8⟩
    subst σ8
    exact And.intro rfl (And.intro rfl ⟨rfl, by rw [s_X0_computeOfTwo, if_pos h1] <;> rfl⟩)
  · refine And.intro (fun (h2 : x1 = 4) => ?_) (fun (h2 : ¬ x1 = 4) => ?_)
    · refine zCl.use (c_X0_push o (((r_X0_pop o (u_X0_computeOfTwo_1 o x1 x2 σ)).1) - ((r_X0_pop o σ).1)) (u_X0_computeOfTwo_2 o x1 x2 σ) ((hp.2.2.2 h1).1 h2)) (Nat.le_of_ble_eq_true rfl) ?_
      rintro _ σ8 ⟨rfl, h8⟩
      subst σ8
      exact And.intro rfl (And.intro rfl ⟨rfl, by rw [s_X0_computeOfTwo, if_neg h1, if_pos h2] <;> rfl⟩)
    · refine And.intro (fun (h3 : x1 = 5) => ?_) (fun (h3 : ¬ x1 = 5) => ?_)
      · refine zCl.use (c_X0_push o (((r_X0_pop o (u_X0_computeOfTwo_1 o x1 x2 σ)).1) * ((r_X0_pop o σ).1)) (u_X0_computeOfTwo_2 o x1 x2 σ) (((hp.2.2.2 h1).2 h2).1 h3)) (Nat.le_of_ble_eq_true rfl) ?_
        rintro _ σ8 ⟨rfl, h8⟩
        subst σ8
        exact And.intro rfl (And.intro rfl ⟨rfl, by rw [s_X0_computeOfTwo, if_neg h1, if_neg h2, if_pos h3] <;> rfl⟩)
      · refine And.intro (fun (h4 : x1 = 6) => ?_) (fun (h4 : ¬ x1 = 6) => ?_)
        · refine And.intro (fun (h5 : ¬ ((r_X0_pop o σ).1) = 0) => ?_) (fun (h5 : ((r_X0_pop o σ).1) = 0) => ?_)
          · refine And.intro (((((hp.2.2.2 h1).2 h2).2 h3).1 h4).1 h5).1 ?_
            refine zCl.use (c_X0_push o (((r_X0_pop o (u_X0_computeOfTwo_1 o x1 x2 σ)).1) / ((r_X0_pop o σ).1)) (u_X0_computeOfTwo_2 o x1 x2 σ) (((((hp.2.2.2 h1).2 h2).2 h3).1 h4).1 h5).2) (Nat.le_of_ble_eq_true rfl) ?_
            rintro _ σ8 ⟨rfl, h8⟩
            subst σ8
            exact And.intro rfl (And.intro rfl ⟨rfl, by rw [s_X0_computeOfTwo, if_neg h1, if_neg h2, if_neg h3, if_pos h4, if_neg h5] <;> rfl⟩)
          · refine zCl.use (c_X0_push o 0 (u_X0_computeOfTwo_2 o x1 x2 σ) (((((hp.2.2.2 h1).2 h2).2 h3).1 h4).2 h5)) (Nat.le_of_ble_eq_true rfl) ?_
            rintro _ σ8 ⟨rfl, h8⟩
            subst σ8
            exact And.intro rfl (And.intro rfl ⟨rfl, by rw [s_X0_computeOfTwo, if_neg h1, if_neg h2, if_neg h3, if_pos h4, if_pos h5] <;> rfl⟩)
        · refine And.intro (fun (h6 : x1 = 7) => ?_) (fun (h6 : ¬ x1 = 7) => ?_)
          · refine And.intro (fun (h7 : ¬ ((r_X0_pop o σ).1) = 0) => ?_) (fun (h7 : ((r_X0_pop o σ).1) = 0) => ?_)
            · refine And.intro ((((((hp.2.2.2 h1).2 h2).2 h3).2 h4) h6).1 h7).1 ?_
              refine zCl.use (c_X0_push o (((r_X0_pop o (u_X0_computeOfTwo_1 o x1 x2 σ)).1) - ((r_X0_pop o (u_X0_computeOfTwo_1 o x1 x2 σ)).1) / ((r_X0_pop o σ).1) * ((r_X0_pop o σ).1)) (u_X0_computeOfTwo_2 o x1 x2 σ) ((((((hp.2.2.2 h1).2 h2).2 h3).2 h4) h6).1 h7).2) (Nat.le_of_ble_eq_true rfl) ?_
              rintro _ σ8 ⟨rfl, h8⟩
              subst σ8
              exact And.intro rfl (And.intro rfl ⟨rfl, by rw [s_X0_computeOfTwo, if_neg h1, if_neg h2, if_neg h3, if_neg h4, if_pos h6, if_neg h7] <;> rfl⟩)
            · refine zCl.use (c_X0_push o 0 (u_X0_computeOfTwo_2 o x1 x2 σ) ((((((hp.2.2.2 h1).2 h2).2 h3).2 h4) h6).2 h7)) (Nat.le_of_ble_eq_true rfl) ?_
              rintro _ σ8 ⟨rfl, h8⟩
              subst σ8
              exact And.intro rfl (And.intro rfl ⟨rfl, by rw [s_X0_computeOfTwo, if_neg h1, if_neg h2, if_neg h3, if_neg h4, if_pos h6, if_pos h7] <;> rfl⟩)
          · refine And.intro (fun (h8 : x1 = 8) => ?_) (fun (h8 : ¬ x1 = 8) => ?_)
            · refine And.intro (fun (h9 : ((r_X0_pop o σ).1) ≤ ((r_X0_pop o (u_X0_computeOfTwo_1 o x1 x2 σ)).1)) => ?_) (fun (h9 : ¬ ((r_X0_pop o σ).1) ≤ ((r_X0_pop o (u_X0_computeOfTwo_1 o x1 x2 σ)).1)) => ?_)
              · exact And.intro rfl (And.intro rfl ⟨rfl, by rw [s_X0_computeOfTwo, if_neg h1, if_neg h2, if_neg h3, if_neg h4, if_neg h6, if_pos h8, if_pos h9] <;> rfl⟩)
              · exact And.intro rfl (And.intro rfl ⟨rfl, by rw [s_X0_computeOfTwo, if_neg h1, if_neg h2, if_neg h3, if_neg h4, if_neg h6, if_pos h8, if_neg h9] <;> rfl⟩)
            · refine And.intro (fun (h10 : x1 = 9) => ?_) (fun (h10 : ¬ x1 = 9) => ?_)
              · refine And.intro (fun (h11 : ((r_X0_pop o (u_X0_computeOfTwo_1 o x1 x2 σ)).1) ≤ ((r_X0_pop o σ).1)) => ?_) (fun (h11 : ¬ ((r_X0_pop o (u_X0_computeOfTwo_1 o x1 x2 σ)).1) ≤ ((r_X0_pop o σ).1)) => ?_)
                · exact And.intro rfl (And.intro rfl ⟨rfl, by rw [s_X0_computeOfTwo, if_neg h1, if_neg h2, if_neg h3, if_neg h4, if_neg h6, if_neg h8, if_pos h10, if_pos h11] <;> rfl⟩)
                · exact And.intro rfl (And.intro rfl ⟨rfl, by rw [s_X0_computeOfTwo, if_neg h1, if_neg h2, if_neg h3, if_neg h4, if_neg h6, if_neg h8, if_pos h10, if_neg h11] <;> rfl⟩)
              · refine And.intro (fun (h12 : ¬ ((r_X0_pop o (u_X0_computeOfTwo_1 o x1 x2 σ)).1) = ((r_X0_pop o σ).1)) => ?_) (fun (h12 : ((r_X0_pop o (u_X0_computeOfTwo_1 o x1 x2 σ)).1) = ((r_X0_pop o σ).1)) => ?_)
                · exact And.intro rfl (And.intro rfl ⟨rfl, by rw [s_X0_computeOfTwo, if_neg h1, if_neg h2, if_neg h3, if_neg h4, if_neg h6, if_neg h8, if_neg h10, if_neg h12] <;> rfl⟩)
                · exact And.intro rfl (And.intro rfl ⟨rfl, by rw [s_X0_computeOfTwo, if_neg h1, if_neg h2, if_neg h3, if_neg h4, if_neg h6, if_neg h8, if_neg h10, if_pos h12] <;> rfl⟩)
def u_X4_copyFrom_h0_1 (o : Nat) (q1 : Nat) (N : Nat) (v2 : Int32) (σ : zS) : zS := s_X5_copyFrom (σ.2 (o + 4) (v2).toNatClampNeg - 1) (f_X4_taskAt q1 v2 σ) σ
def l_X4_copyFrom (o : Nat) (q1 : Nat) (N : Nat) : Nat → Int32 → zS → zS
  | 0, _, σ => σ
  | n + 1, v2, σ => if 4 ≤ v2 then σ else (l_X4_copyFrom o q1 N n (v2 + 1) (u_X4_copyFrom_h0_1 o q1 N v2 σ))
def q_X4_copyFrom (o : Nat) (q1 : Nat) (N : Nat) : Nat → Int32 → zS → Prop
  | 0, _, _ => False
  | n + 1, v2, σ => ¬ 4 ≤ v2 → (vp_in v2 4 ∧ ((σ.2 (o + 4) (v2).toNatClampNeg ≠ 0 ∧ zlay (σ.2 (o + 4) (v2).toNatClampNeg - 1) = (5, 12)) ∧ (p_X4_taskAt q1 v2 σ ∧ (p_X5_copyFrom (σ.2 (o + 4) (v2).toNatClampNeg - 1) (f_X4_taskAt q1 v2 σ) σ ∧ q_X4_copyFrom o q1 N n (v2 + 1) (u_X4_copyFrom_h0_1 o q1 N v2 σ)))))
set_option maxRecDepth 100000 in
set_option maxHeartbeats 1000000 in
theorem w_X4_copyFrom {nx : Nat} (o : Nat) (q1 : Nat) (N : Nat) : ∀ n : Nat, (∀ (v2 : Int32) (σ : zS), q_X4_copyFrom o q1 N n v2 σ → zWp 3 zall nx 52 (fun v σ1 => v = none ∧ σ1 = l_X4_copyFrom o q1 N n v2 σ) zall nx 160 [some (.inr (4, 17, o)), some (.inr (4, 17, q1)), some (.inl v2)] [] σ) := by
  intro n
  induction n with
  | zero => exact fun _ _ h => h.elim
  | succ n ih =>
    intro v2 σ hp
    rw [q_X4_copyFrom] at hp
    refine zvc_sound (cd := kX4_copyFrom) (cs := [160]) rfl okX4_copyFrom 1000 _ _ 160 (zseek kX4_copyFrom 160) _ _ _ zseek_sub ?_
    refine And.intro (fun (h1 : 4 ≤ v2) => ?_) (fun (h1 : ¬ 4 ≤ v2) => ?_)
    · exact And.intro rfl (And.intro rfl ⟨rfl, by rw [l_X4_copyFrom, if_pos h1] <;> rfl⟩)
    · refine And.intro (hp h1).1 ?_
      refine And.intro (hp h1).2.1.1 (fun q902 (e2 : σ.2 (o + 4) (v2).toNatClampNeg = q902 + 1) => ?_)
      have g2 : q902 = (σ.2 (o + 4) (v2).toNatClampNeg - 1) := by omega
      subst g2
      rw [(hp h1).2.1.2]
      refine zCl.use (c_X4_taskAt q1 v2 σ (hp h1).2.2.1) (Nat.le_of_ble_eq_true rfl) ?_
      rintro _ σ8 ⟨rfl, h8⟩
      subst σ8
      refine zCl.use (c_X5_copyFrom (σ.2 (o + 4) (v2).toNatClampNeg - 1) (f_X4_taskAt q1 v2 σ) σ (hp h1).2.2.2.1) (Nat.le_of_ble_eq_true rfl) ?_
      rintro _ σ8 ⟨rfl, h8⟩
      subst σ8
      refine zWp.use (ih (v2 + 1) (u_X4_copyFrom_h0_1 o q1 N v2 σ) (hp h1).2.2.2.2) (And.intro rfl (And.intro rfl (And.intro rfl trivial))) (fun v9 σ9 h9 => ?_)
      rw [l_X4_copyFrom, if_neg h1]; exact h9
def u_X4_copyFrom_1 (o : Nat) (q1 : Nat) (N : Nat) (σ : zS) : zS := zuI σ o 0 (σ.1 q1 0)
def u_X4_copyFrom_2 (o : Nat) (q1 : Nat) (N : Nat) (σ : zS) : zS := zuI (u_X4_copyFrom_1 o q1 N σ) o 1 ((u_X4_copyFrom_1 o q1 N σ).1 q1 1)
def u_X4_copyFrom_3 (o : Nat) (q1 : Nat) (N : Nat) (σ : zS) : zS := zuI (u_X4_copyFrom_2 o q1 N σ) o 2 ((u_X4_copyFrom_2 o q1 N σ).1 q1 2)
def u_X4_copyFrom_4 (o : Nat) (q1 : Nat) (N : Nat) (σ : zS) : zS := zuI (u_X4_copyFrom_3 o q1 N σ) o 3 ((u_X4_copyFrom_3 o q1 N σ).1 q1 3)
def u_X4_copyFrom_5 (o : Nat) (q1 : Nat) (N : Nat) (σ : zS) : zS := zuI (u_X4_copyFrom_4 o q1 N σ) o 4 ((u_X4_copyFrom_4 o q1 N σ).1 q1 4)
def u_X4_copyFrom_6 (o : Nat) (q1 : Nat) (N : Nat) (σ : zS) : zS := zuI (u_X4_copyFrom_5 o q1 N σ) o 5 ((u_X4_copyFrom_5 o q1 N σ).1 q1 5)
def u_X4_copyFrom_7 (o : Nat) (q1 : Nat) (N : Nat) (σ : zS) : zS := zuI (u_X4_copyFrom_6 o q1 N σ) o 6 ((u_X4_copyFrom_6 o q1 N σ).1 q1 6)
def u_X4_copyFrom_8 (o : Nat) (q1 : Nat) (N : Nat) (σ : zS) : zS := zuI (u_X4_copyFrom_7 o q1 N σ) o 7 ((u_X4_copyFrom_7 o q1 N σ).1 q1 7)
def u_X4_copyFrom_9 (o : Nat) (q1 : Nat) (N : Nat) (σ : zS) : zS := zuI (u_X4_copyFrom_8 o q1 N σ) o 8 ((u_X4_copyFrom_8 o q1 N σ).1 q1 8)
def u_X4_copyFrom_10 (o : Nat) (q1 : Nat) (N : Nat) (σ : zS) : zS := zuI (u_X4_copyFrom_9 o q1 N σ) o 9 ((u_X4_copyFrom_9 o q1 N σ).1 q1 9)
def u_X4_copyFrom_11 (o : Nat) (q1 : Nat) (N : Nat) (σ : zS) : zS := zuI (u_X4_copyFrom_10 o q1 N σ) o 10 ((u_X4_copyFrom_10 o q1 N σ).1 q1 10)
def u_X4_copyFrom_12 (o : Nat) (q1 : Nat) (N : Nat) (σ : zS) : zS := zuI (u_X4_copyFrom_11 o q1 N σ) o 11 ((u_X4_copyFrom_11 o q1 N σ).1 q1 11)
def u_X4_copyFrom_13 (o : Nat) (q1 : Nat) (N : Nat) (σ : zS) : zS := zuI (u_X4_copyFrom_12 o q1 N σ) o 12 ((u_X4_copyFrom_12 o q1 N σ).1 q1 12)
def u_X4_copyFrom_14 (o : Nat) (q1 : Nat) (N : Nat) (σ : zS) : zS := zcpy (u_X4_copyFrom_13 o q1 N σ) (q1 + 1) (o + 1) 0 0 12
def u_X4_copyFrom_15 (o : Nat) (q1 : Nat) (N : Nat) (σ : zS) : zS := zcpy (u_X4_copyFrom_14 o q1 N σ) (q1 + 2) (o + 2) 0 0 12
def u_X4_copyFrom_16 (o : Nat) (q1 : Nat) (N : Nat) (σ : zS) : zS := zcpy (u_X4_copyFrom_15 o q1 N σ) (q1 + 3) (o + 3) 0 0 100
def s_X4_copyFrom (o : Nat) (q1 : Nat) (N : Nat) (σ : zS) : zS := l_X4_copyFrom o q1 N N 0 (u_X4_copyFrom_16 o q1 N σ)
def p_X4_copyFrom (o : Nat) (q1 : Nat) (N : Nat) (σ : zS) : Prop := q_X4_copyFrom o q1 N N 0 (u_X4_copyFrom_16 o q1 N σ)
set_option maxRecDepth 100000 in
set_option maxHeartbeats 1000000 in
theorem c_X4_copyFrom {nx : Nat} (o : Nat) (q1 : Nat) (N : Nat) (σ : zS) (hp : p_X4_copyFrom o q1 N σ) : zCl 3 zall nx zall nx 52 [.inr (4, 17, o), .inr (4, 17, q1)] σ (fun v σ1 => v = none ∧ σ1 = s_X4_copyFrom o q1 N σ) := by
  refine zmeth (cd := kX4_copyFrom) [160] 1000 (Nat.le_of_ble_eq_true rfl) rfl okX4_copyFrom (Nat.le_refl _) (Nat.le_of_ble_eq_true rfl) ?_
  refine And.intro (by decide) ?_
  refine And.intro (by decide) ?_
  refine And.intro (by decide) ?_
  refine And.intro (Nat.le_of_ble_eq_true rfl) ?_
  refine And.intro (Nat.le_of_ble_eq_true rfl) ?_
  refine And.intro (by decide) ?_
  refine And.intro (by decide) ?_
  refine And.intro (by decide) ?_
  refine And.intro (Nat.le_of_ble_eq_true rfl) ?_
  refine And.intro (Nat.le_of_ble_eq_true rfl) ?_
  refine And.intro (by decide) ?_
  refine And.intro (by decide) ?_
  refine And.intro (by decide) ?_
  refine And.intro (Nat.le_of_ble_eq_true rfl) ?_
  refine And.intro (Nat.le_of_ble_eq_true rfl) ?_
  refine zWp.use ((w_X4_copyFrom o q1 N N) 0 (u_X4_copyFrom_16 o q1 N σ) hp) (And.intro rfl (And.intro rfl (And.intro rfl trivial))) (fun v9 σ9 h9 => ?_)
  rw [s_X4_copyFrom]; exact h9
def u_X8_feed_1 (x1 : Int32) (x2 : Int32) (x3 : Int32) (x4 : Int32) (x5 : Int32) (N : Nat) (σ : zS) : zS := s_X8_feedFour x1 N σ
def u_X8_feed_2 (x1 : Int32) (x2 : Int32) (x3 : Int32) (x4 : Int32) (x5 : Int32) (N : Nat) (σ : zS) : zS := s_X8_feedFour x2 N (u_X8_feed_1 x1 x2 x3 x4 x5 N σ)
def u_X8_feed_3 (x1 : Int32) (x2 : Int32) (x3 : Int32) (x4 : Int32) (x5 : Int32) (N : Nat) (σ : zS) : zS := s_X8_feedFour x3 N (u_X8_feed_2 x1 x2 x3 x4 x5 N σ)
def u_X8_feed_4 (x1 : Int32) (x2 : Int32) (x3 : Int32) (x4 : Int32) (x5 : Int32) (N : Nat) (σ : zS) : zS := s_X8_feedFour x4 N (u_X8_feed_3 x1 x2 x3 x4 x5 N σ)
def u_X8_feed_5 (x1 : Int32) (x2 : Int32) (x3 : Int32) (x4 : Int32) (x5 : Int32) (N : Nat) (σ : zS) : zS := s_X8_feedFour x5 N (u_X8_feed_4 x1 x2 x3 x4 x5 N σ)
def r_X8_feed (x1 : Int32) (x2 : Int32) (x3 : Int32) (x4 : Int32) (x5 : Int32) (N : Nat) (σ : zS) : Int32 × zS := if (σ.1 0 1) ≤ 980 then ((u_X8_feed_5 x1 x2 x3 x4 x5 N σ).1 0 1, (u_X8_feed_5 x1 x2 x3 x4 x5 N σ)) else (-1, σ)
def p_X8_feed (x1 : Int32) (x2 : Int32) (x3 : Int32) (x4 : Int32) (x5 : Int32) (N : Nat) (σ : zS) : Prop := (σ.1 0 1) ≤ 980 → (p_X8_feedFour x1 N σ ∧ (p_X8_feedFour x2 N (u_X8_feed_1 x1 x2 x3 x4 x5 N σ) ∧ (p_X8_feedFour x3 N (u_X8_feed_2 x1 x2 x3 x4 x5 N σ) ∧ (p_X8_feedFour x4 N (u_X8_feed_3 x1 x2 x3 x4 x5 N σ) ∧ p_X8_feedFour x5 N (u_X8_feed_4 x1 x2 x3 x4 x5 N σ)))))
set_option maxRecDepth 100000 in
set_option maxHeartbeats 1000000 in
theorem c_X8_feed {nx : Nat} (x1 : Int32) (x2 : Int32) (x3 : Int32) (x4 : Int32) (x5 : Int32) (N : Nat) (σ : zS) (hp : p_X8_feed x1 x2 x3 x4 x5 N σ) : zCl 3 zall nx zall nx 109 [.inr (8, 16, 0), .inl x1, .inl x2, .inl x3, .inl x4, .inl x5] σ (fun v σ1 => v = some (.inl ((r_X8_feed x1 x2 x3 x4 x5 N σ).1)) ∧ σ1 = (r_X8_feed x1 x2 x3 x4 x5 N σ).2) := by
  refine zmeth (cd := kX8_feed) [] 1000 (Nat.le_of_ble_eq_true rfl) rfl okX8_feed (Nat.le_refl _) (Nat.le_of_ble_eq_true rfl) ?_
  refine And.intro (fun (h1 : (σ.1 0 1) ≤ 980) => ?_) (fun (h1 : ¬ (σ.1 0 1) ≤ 980) => ?_)
  · refine zCl.use (c_X8_feedFour x1 N σ (hp h1).1) (Nat.le_of_ble_eq_true rfl) ?_
    rintro _ σ8 ⟨rfl, h8⟩
    subst σ8
    refine zCl.use (c_X8_feedFour x2 N (u_X8_feed_1 x1 x2 x3 x4 x5 N σ) (hp h1).2.1) (Nat.le_of_ble_eq_true rfl) ?_
    rintro _ σ8 ⟨rfl, h8⟩
    subst σ8
    refine zCl.use (c_X8_feedFour x3 N (u_X8_feed_2 x1 x2 x3 x4 x5 N σ) (hp h1).2.2.1) (Nat.le_of_ble_eq_true rfl) ?_
    rintro _ σ8 ⟨rfl, h8⟩
    subst σ8
    refine zCl.use (c_X8_feedFour x4 N (u_X8_feed_3 x1 x2 x3 x4 x5 N σ) (hp h1).2.2.2.1) (Nat.le_of_ble_eq_true rfl) ?_
    rintro _ σ8 ⟨rfl, h8⟩
    subst σ8
    refine zCl.use (c_X8_feedFour x5 N (u_X8_feed_4 x1 x2 x3 x4 x5 N σ) (hp h1).2.2.2.2) (Nat.le_of_ble_eq_true rfl) ?_
    rintro _ σ8 ⟨rfl, h8⟩
    subst σ8
    exact And.intro rfl (And.intro rfl ⟨by rw [r_X8_feed, if_pos h1] <;> rfl, by rw [r_X8_feed, if_pos h1] <;> rfl⟩)
  · exact And.intro rfl (And.intro rfl ⟨by rw [r_X8_feed, if_neg h1] <;> rfl, by rw [r_X8_feed, if_neg h1] <;> rfl⟩)
def u_X9_scanWord_h0_1 (N : Nat) (v1 : Int32) (v2 : Int32) (v3 : Int32) (σ : zS) : zS := zuI σ 468 24 (-1)
def u_X9_scanWord_h0_2 (N : Nat) (v1 : Int32) (v2 : Int32) (v3 : Int32) (σ : zS) : zS := zuI σ 468 20 ((σ.1 468 20) + 1)
def u_X9_scanWord_h2_1 (N : Nat) (v1 : Int32) (v2 : Int32) (v3 : Int32) (σ : zS) : zS := zuI σ 468 24 v2
def l_X9_scanWord (N : Nat) : Nat → Nat → Int32 → Int32 → Int32 → zS → zS
  | 0, _, _, _, _, σ => σ
  | n + 1, 0, v1, v2, v3, σ => if (f_X9_isLetter (f_X9_signAt (σ.1 468 20) σ)) = 0 then (l_X9_scanWord N n 1 0 0 0 (u_X9_scanWord_h0_1 N v1 v2 v3 σ)) else (l_X9_scanWord N n 0 0 0 0 (u_X9_scanWord_h0_2 N v1 v2 v3 σ))
  | n + 1, 1, v1, v2, v3, σ => if 13 ≤ v2 then σ else (l_X9_scanWord N n 2 v1 v2 v1 σ)
  | n + 1, _, v1, v2, v3, σ => if (σ.1 486 (v3).toNatClampNeg) = 32 then (if (f_X9_isSame v1 v3 N σ) = 0 then (l_X9_scanWord N n 1 (v3 + 1) (v2 + 1) 0 σ) else (l_X9_scanWord N n 1 (v3 + 1) (v2 + 1) 0 (u_X9_scanWord_h2_1 N v1 v2 v3 σ))) else (l_X9_scanWord N n 2 v1 v2 (v3 + 1) σ)
def q_X9_scanWord (N : Nat) : Nat → Nat → Int32 → Int32 → Int32 → zS → Prop
  | 0, _, _, _, _, _ => False
  | n + 1, 0, v1, v2, v3, σ => p_X9_signAt (σ.1 468 20) σ ∧ (((f_X9_isLetter (f_X9_signAt (σ.1 468 20) σ)) = 0 → q_X9_scanWord N n 1 0 0 0 (u_X9_scanWord_h0_1 N v1 v2 v3 σ)) ∧ (¬ (f_X9_isLetter (f_X9_signAt (σ.1 468 20) σ)) = 0 → q_X9_scanWord N n 0 0 0 0 (u_X9_scanWord_h0_2 N v1 v2 v3 σ)))
  | n + 1, 1, v1, v2, v3, σ => ¬ 13 ≤ v2 → q_X9_scanWord N n 2 v1 v2 v1 σ
  | n + 1, _, v1, v2, v3, σ => vp_in v3 78 ∧ (((σ.1 486 (v3).toNatClampNeg) = 32 → (p_X9_isSame v1 v3 N σ ∧ (((f_X9_isSame v1 v3 N σ) = 0 → q_X9_scanWord N n 1 (v3 + 1) (v2 + 1) 0 σ) ∧ (¬ (f_X9_isSame v1 v3 N σ) = 0 → q_X9_scanWord N n 1 (v3 + 1) (v2 + 1) 0 (u_X9_scanWord_h2_1 N v1 v2 v3 σ))))) ∧ (¬ (σ.1 486 (v3).toNatClampNeg) = 32 → q_X9_scanWord N n 2 v1 v2 (v3 + 1) σ))
set_option maxRecDepth 100000 in
set_option maxHeartbeats 1000000 in
theorem w_X9_scanWord {nx : Nat} (N : Nat) : ∀ n : Nat, (∀ (v1 : Int32) (v2 : Int32) (v3 : Int32) (σ : zS), q_X9_scanWord N n 0 v1 v2 v3 σ → zWp 2 zall nx 164 (fun v σ1 => v = none ∧ σ1 = l_X9_scanWord N n 0 v1 v2 v3 σ) zall nx 13 [some (.inr (9, 57, 468)), none, none, none] [] σ) ∧ (∀ (v1 : Int32) (v2 : Int32) (v3 : Int32) (σ : zS), q_X9_scanWord N n 1 v1 v2 v3 σ → zWp 2 zall nx 164 (fun v σ1 => v = none ∧ σ1 = l_X9_scanWord N n 1 v1 v2 v3 σ) zall nx 49 [some (.inr (9, 57, 468)), some (.inl v1), some (.inl v2), none] [] σ) ∧ (∀ (v1 : Int32) (v2 : Int32) (v3 : Int32) (σ : zS), q_X9_scanWord N n 2 v1 v2 v3 σ → zWp 2 zall nx 164 (fun v σ1 => v = none ∧ σ1 = l_X9_scanWord N n 2 v1 v2 v3 σ) zall nx 57 [some (.inr (9, 57, 468)), some (.inl v1), some (.inl v2), some (.inl v3)] [] σ) := by
  intro n
  induction n with
  | zero => exact ⟨fun _ _ _ _ h => h.elim, fun _ _ _ _ h => h.elim, fun _ _ _ _ h => h.elim⟩
  | succ n ih =>
    refine ⟨?_, ?_, ?_⟩
    · intro v1 v2 v3 σ hp
      rw [q_X9_scanWord] at hp
      refine zvc_sound (cd := kX9_scanWord) (cs := [13, 49, 57]) rfl okX9_scanWord 1000 _ _ 13 (zseek kX9_scanWord 13) _ _ _ zseek_sub ?_
      refine zCl.use (c_X9_signAt (σ.1 468 20) σ hp.1) (Nat.le_of_ble_eq_true rfl) ?_
      rintro _ σ8 ⟨rfl, h8⟩
      subst σ8
      refine zCl.use (c_X9_isLetter (f_X9_signAt (σ.1 468 20) σ) σ) (Nat.le_of_ble_eq_true rfl) ?_
      rintro _ σ8 ⟨rfl, h8⟩
      subst σ8
      refine And.intro (fun (h1 : (f_X9_isLetter (f_X9_signAt (σ.1 468 20) σ)) = 0) => ?_) (fun (h1 : ¬ (f_X9_isLetter (f_X9_signAt (σ.1 468 20) σ)) = 0) => ?_)
      · refine zWp.use (ih.2.1 0 0 0 (u_X9_scanWord_h0_1 N v1 v2 v3 σ) (hp.2.1 h1)) (And.intro rfl (And.intro rfl (And.intro rfl trivial))) (fun v9 σ9 h9 => ?_)
        rw [l_X9_scanWord, if_pos h1]; exact h9
      · refine zWp.use (ih.1 0 0 0 (u_X9_scanWord_h0_2 N v1 v2 v3 σ) (hp.2.2 h1)) (And.intro rfl trivial) (fun v9 σ9 h9 => ?_)
        rw [l_X9_scanWord, if_neg h1]; exact h9
    · intro v1 v2 v3 σ hp
      rw [q_X9_scanWord] at hp
      refine zvc_sound (cd := kX9_scanWord) (cs := [13, 49, 57]) rfl okX9_scanWord 1000 _ _ 49 (zseek kX9_scanWord 49) _ _ _ zseek_sub ?_
      refine And.intro (fun (h1 : 13 ≤ v2) => ?_) (fun (h1 : ¬ 13 ≤ v2) => ?_)
      · exact And.intro rfl (And.intro rfl ⟨rfl, by rw [l_X9_scanWord, if_pos h1] <;> rfl⟩)
      · refine zWp.use (ih.2.2 v1 v2 v1 σ (hp h1)) (And.intro rfl (And.intro rfl (And.intro rfl (And.intro rfl trivial)))) (fun v9 σ9 h9 => ?_)
        rw [l_X9_scanWord, if_neg h1]; exact h9
    · intro v1 v2 v3 σ hp
      rw [q_X9_scanWord] at hp
      refine zvc_sound (cd := kX9_scanWord) (cs := [13, 49, 57]) rfl okX9_scanWord 1000 _ _ 57 (zseek kX9_scanWord 57) _ _ _ zseek_sub ?_
      refine And.intro hp.1 ?_
      refine And.intro (fun (h1 : (σ.1 486 (v3).toNatClampNeg) = 32) => ?_) (fun (h1 : ¬ (σ.1 486 (v3).toNatClampNeg) = 32) => ?_)
      · refine zCl.use (c_X9_isSame v1 v3 N σ (hp.2.1 h1).1) (Nat.le_of_ble_eq_true rfl) ?_
        rintro _ σ8 ⟨rfl, h8⟩
        subst σ8
        refine And.intro (fun (h2 : (f_X9_isSame v1 v3 N σ) = 0) => ?_) (fun (h2 : ¬ (f_X9_isSame v1 v3 N σ) = 0) => ?_)
        · refine zWp.use (ih.2.1 (v3 + 1) (v2 + 1) 0 σ ((hp.2.1 h1).2.1 h2)) (And.intro rfl (And.intro rfl (And.intro rfl trivial))) (fun v9 σ9 h9 => ?_)
          rw [l_X9_scanWord, if_pos h1, if_pos h2]; exact h9
        · refine zWp.use (ih.2.1 (v3 + 1) (v2 + 1) 0 (u_X9_scanWord_h2_1 N v1 v2 v3 σ) ((hp.2.1 h1).2.2 h2)) (And.intro rfl (And.intro rfl (And.intro rfl trivial))) (fun v9 σ9 h9 => ?_)
          rw [l_X9_scanWord, if_pos h1, if_neg h2]; exact h9
      · refine zWp.use (ih.2.2 v1 v2 (v3 + 1) σ (hp.2.2 h1)) (And.intro rfl (And.intro rfl (And.intro rfl (And.intro rfl trivial)))) (fun v9 σ9 h9 => ?_)
        rw [l_X9_scanWord, if_neg h1]; exact h9
def u_X9_scanWord_1 (N : Nat) (σ : zS) : zS := zuI σ 468 22 2
def u_X9_scanWord_2 (N : Nat) (σ : zS) : zS := zuI (u_X9_scanWord_1 N σ) 468 20 ((u_X9_scanWord_1 N σ).1 468 21)
def s_X9_scanWord (N : Nat) (σ : zS) : zS := l_X9_scanWord N N 0 0 0 0 (u_X9_scanWord_2 N σ)
def p_X9_scanWord (N : Nat) (σ : zS) : Prop := q_X9_scanWord N N 0 0 0 0 (u_X9_scanWord_2 N σ)
set_option maxRecDepth 100000 in
set_option maxHeartbeats 1000000 in
theorem c_X9_scanWord {nx : Nat} (N : Nat) (σ : zS) (hp : p_X9_scanWord N σ) : zCl 2 zall nx zall nx 164 [.inr (9, 57, 468)] σ (fun v σ1 => v = none ∧ σ1 = s_X9_scanWord N σ) := by
  refine zmeth (cd := kX9_scanWord) [13, 49, 57] 1000 (Nat.le_of_ble_eq_true rfl) rfl okX9_scanWord (Nat.le_refl _) (Nat.le_of_ble_eq_true rfl) ?_
  refine zWp.use ((w_X9_scanWord N N).1 0 0 0 (u_X9_scanWord_2 N σ) hp) (And.intro rfl trivial) (fun v9 σ9 h9 => ?_)
  rw [s_X9_scanWord]; exact h9
def u_X9_goOn_h0_1 (N : Nat) (v1 : Int32) (v2 : Int32) (v3 : Int32) (v4 : Int32) (v5 : Int32) (v6 : Int32) (σ : zS) : zS := zuI σ 469 (f_X9_atFrame v1 v2 1).toNatClampNeg ((σ.1 469 (f_X9_atFrame v1 v2 1).toNatClampNeg) + 1)
def u_X9_goOn_h0_2 (N : Nat) (v1 : Int32) (v2 : Int32) (v3 : Int32) (v4 : Int32) (v5 : Int32) (v6 : Int32) (σ : zS) : zS := s_X9_doStep v1 v2 (σ.1 484 ((800 * (σ.1 468 16)) + (2 * (σ.1 469 (f_X9_atFrame v1 v2 1).toNatClampNeg))).toNatClampNeg) (σ.1 484 (((800 * (σ.1 468 16)) + (2 * (σ.1 469 (f_X9_atFrame v1 v2 1).toNatClampNeg))) + 1).toNatClampNeg) (u_X9_goOn_h0_1 N v1 v2 v3 v4 v5 v6 σ)
def u_X9_goOn_h0_3 (N : Nat) (v1 : Int32) (v2 : Int32) (v3 : Int32) (v4 : Int32) (v5 : Int32) (v6 : Int32) (σ : zS) : zS := zuI (u_X9_goOn_h0_1 N v1 v2 v3 v4 v5 v6 σ) 468 41 (σ.1 484 (((800 * (σ.1 468 16)) + (2 * (σ.1 469 (f_X9_atFrame v1 v2 1).toNatClampNeg))) + 1).toNatClampNeg)
def u_X9_goOn_h0_4 (N : Nat) (v1 : Int32) (v2 : Int32) (v3 : Int32) (v4 : Int32) (v5 : Int32) (v6 : Int32) (σ : zS) : zS := (r_X9_take v1 (u_X9_goOn_h0_1 N v1 v2 v3 v4 v5 v6 σ)).2
def u_X9_goOn_h0_5 (N : Nat) (v1 : Int32) (v2 : Int32) (v3 : Int32) (v4 : Int32) (v5 : Int32) (v6 : Int32) (σ : zS) : zS := zuI (u_X9_goOn_h0_4 N v1 v2 v3 v4 v5 v6 σ) 468 42 ((r_X9_take v1 (u_X9_goOn_h0_1 N v1 v2 v3 v4 v5 v6 σ)).1)
def u_X9_goOn_h1_1 (N : Nat) (v1 : Int32) (v2 : Int32) (v3 : Int32) (v4 : Int32) (v5 : Int32) (v6 : Int32) (σ : zS) : zS := (r_X9_take v1 σ).2
def u_X9_goOn_h1_2 (N : Nat) (v1 : Int32) (v2 : Int32) (v3 : Int32) (v4 : Int32) (v5 : Int32) (v6 : Int32) (σ : zS) : zS := zuI (u_X9_goOn_h1_1 N v1 v2 v3 v4 v5 v6 σ) 492 (v6).toNatClampNeg ((r_X9_take v1 σ).1)
def l_X9_goOn (N : Nat) : Nat → Nat → Int32 → Int32 → Int32 → Int32 → Int32 → Int32 → zS → Int32 × zS
  | 0, _, _, _, _, _, _, _, σ => (0, σ)
  | n + 1, 0, v1, v2, v3, v4, v5, v6, σ => if (σ.1 484 ((800 * (σ.1 468 16)) + (2 * (σ.1 469 (f_X9_atFrame v1 v2 1).toNatClampNeg))).toNatClampNeg) = 13 then (0, (u_X9_goOn_h0_5 N v1 v2 v3 v4 v5 v6 σ)) else (if (σ.1 484 ((800 * (σ.1 468 16)) + (2 * (σ.1 469 (f_X9_atFrame v1 v2 1).toNatClampNeg))).toNatClampNeg) = 8 then (l_X9_goOn N n 1 v1 v2 ((800 * (σ.1 468 16)) + (2 * (σ.1 469 (f_X9_atFrame v1 v2 1).toNatClampNeg))) (σ.1 484 ((800 * (σ.1 468 16)) + (2 * (σ.1 469 (f_X9_atFrame v1 v2 1).toNatClampNeg))).toNatClampNeg) (σ.1 484 (((800 * (σ.1 468 16)) + (2 * (σ.1 469 (f_X9_atFrame v1 v2 1).toNatClampNeg))) + 1).toNatClampNeg) (((u_X9_goOn_h0_3 N v1 v2 v3 v4 v5 v6 σ).1 481 ((6 * ((u_X9_goOn_h0_3 N v1 v2 v3 v4 v5 v6 σ).1 468 16)) + (σ.1 484 (((800 * (σ.1 468 16)) + (2 * (σ.1 469 (f_X9_atFrame v1 v2 1).toNatClampNeg))) + 1).toNatClampNeg)).toNatClampNeg) - 1) (u_X9_goOn_h0_3 N v1 v2 v3 v4 v5 v6 σ)) else (l_X9_goOn N n 0 v1 v2 0 0 0 0 (u_X9_goOn_h0_2 N v1 v2 v3 v4 v5 v6 σ)))
  | n + 1, _, v1, v2, v3, v4, v5, v6, σ => if v6 < 0 then (1, σ) else (l_X9_goOn N n 1 v1 v2 v3 v4 v5 (v6 + (-1)) (u_X9_goOn_h1_2 N v1 v2 v3 v4 v5 v6 σ))
def q_X9_goOn (N : Nat) : Nat → Nat → Int32 → Int32 → Int32 → Int32 → Int32 → Int32 → zS → Prop
  | 0, _, _, _, _, _, _, _, _ => False
  | n + 1, 0, v1, v2, v3, v4, v5, v6, σ => vp_in (f_X9_atFrame v1 v2 1) 14241 ∧ (vp_in ((800 * (σ.1 468 16)) + (2 * (σ.1 469 (f_X9_atFrame v1 v2 1).toNatClampNeg))) 1600 ∧ (vp_in (((800 * (σ.1 468 16)) + (2 * (σ.1 469 (f_X9_atFrame v1 v2 1).toNatClampNeg))) + 1) 1600 ∧ ((¬ (σ.1 484 ((800 * (σ.1 468 16)) + (2 * (σ.1 469 (f_X9_atFrame v1 v2 1).toNatClampNeg))).toNatClampNeg) = 13 → ((¬ (σ.1 484 ((800 * (σ.1 468 16)) + (2 * (σ.1 469 (f_X9_atFrame v1 v2 1).toNatClampNeg))).toNatClampNeg) = 8 → (p_X9_doStep v1 v2 (σ.1 484 ((800 * (σ.1 468 16)) + (2 * (σ.1 469 (f_X9_atFrame v1 v2 1).toNatClampNeg))).toNatClampNeg) (σ.1 484 (((800 * (σ.1 468 16)) + (2 * (σ.1 469 (f_X9_atFrame v1 v2 1).toNatClampNeg))) + 1).toNatClampNeg) (u_X9_goOn_h0_1 N v1 v2 v3 v4 v5 v6 σ) ∧ q_X9_goOn N n 0 v1 v2 0 0 0 0 (u_X9_goOn_h0_2 N v1 v2 v3 v4 v5 v6 σ))) ∧ ((σ.1 484 ((800 * (σ.1 468 16)) + (2 * (σ.1 469 (f_X9_atFrame v1 v2 1).toNatClampNeg))).toNatClampNeg) = 8 → (vp_in ((6 * ((u_X9_goOn_h0_3 N v1 v2 v3 v4 v5 v6 σ).1 468 16)) + (σ.1 484 (((800 * (σ.1 468 16)) + (2 * (σ.1 469 (f_X9_atFrame v1 v2 1).toNatClampNeg))) + 1).toNatClampNeg)) 12 ∧ q_X9_goOn N n 1 v1 v2 ((800 * (σ.1 468 16)) + (2 * (σ.1 469 (f_X9_atFrame v1 v2 1).toNatClampNeg))) (σ.1 484 ((800 * (σ.1 468 16)) + (2 * (σ.1 469 (f_X9_atFrame v1 v2 1).toNatClampNeg))).toNatClampNeg) (σ.1 484 (((800 * (σ.1 468 16)) + (2 * (σ.1 469 (f_X9_atFrame v1 v2 1).toNatClampNeg))) + 1).toNatClampNeg) (((u_X9_goOn_h0_3 N v1 v2 v3 v4 v5 v6 σ).1 481 ((6 * ((u_X9_goOn_h0_3 N v1 v2 v3 v4 v5 v6 σ).1 468 16)) + (σ.1 484 (((800 * (σ.1 468 16)) + (2 * (σ.1 469 (f_X9_atFrame v1 v2 1).toNatClampNeg))) + 1).toNatClampNeg)).toNatClampNeg) - 1) (u_X9_goOn_h0_3 N v1 v2 v3 v4 v5 v6 σ))))) ∧ ((σ.1 484 ((800 * (σ.1 468 16)) + (2 * (σ.1 469 (f_X9_atFrame v1 v2 1).toNatClampNeg))).toNatClampNeg) = 13 → p_X9_take v1 (u_X9_goOn_h0_1 N v1 v2 v3 v4 v5 v6 σ)))))
  | n + 1, _, v1, v2, v3, v4, v5, v6, σ => ¬ v6 < 0 → (p_X9_take v1 σ ∧ (vp_in v6 4 ∧ q_X9_goOn N n 1 v1 v2 v3 v4 v5 (v6 + (-1)) (u_X9_goOn_h1_2 N v1 v2 v3 v4 v5 v6 σ)))
set_option maxRecDepth 100000 in
set_option maxHeartbeats 1000000 in
theorem w_X9_goOn {nx : Nat} (N : Nat) : ∀ n : Nat, (∀ (v1 : Int32) (v2 : Int32) (v3 : Int32) (v4 : Int32) (v5 : Int32) (v6 : Int32) (σ : zS), q_X9_goOn N n 0 v1 v2 v3 v4 v5 v6 σ → zWp 4 zall nx 226 (fun v σ1 => v = some (.inl ((l_X9_goOn N n 0 v1 v2 v3 v4 v5 v6 σ).1)) ∧ σ1 = (l_X9_goOn N n 0 v1 v2 v3 v4 v5 v6 σ).2) zall nx 6 [some (.inr (9, 57, 468)), some (.inl v1), some (.inl v2), none, none, none, none] [] σ) ∧ (∀ (v1 : Int32) (v2 : Int32) (v3 : Int32) (v4 : Int32) (v5 : Int32) (v6 : Int32) (σ : zS), q_X9_goOn N n 1 v1 v2 v3 v4 v5 v6 σ → zWp 4 zall nx 226 (fun v σ1 => v = some (.inl ((l_X9_goOn N n 1 v1 v2 v3 v4 v5 v6 σ).1)) ∧ σ1 = (l_X9_goOn N n 1 v1 v2 v3 v4 v5 v6 σ).2) zall nx 112 [some (.inr (9, 57, 468)), some (.inl v1), some (.inl v2), some (.inl v3), some (.inl v4), some (.inl v5), some (.inl v6)] [] σ) := by
  intro n
  induction n with
  | zero => exact ⟨fun _ _ _ _ _ _ _ h => h.elim, fun _ _ _ _ _ _ _ h => h.elim⟩
  | succ n ih =>
    refine ⟨?_, ?_⟩
    · intro v1 v2 v3 v4 v5 v6 σ hp
      rw [q_X9_goOn] at hp
      refine zvc_sound (cd := kX9_goOn) (cs := [6, 112]) rfl okX9_goOn 1000 _ _ 6 (zseek kX9_goOn 6) _ _ _ zseek_sub ?_
      refine zCl.use (c_X9_atFrame v1 v2 1 σ) (Nat.le_of_ble_eq_true rfl) ?_
      rintro _ σ8 ⟨rfl, h8⟩
      subst σ8
      refine And.intro hp.1 ?_
      refine And.intro hp.2.1 ?_
      refine And.intro hp.2.2.1 ?_
      refine zCl.use (c_X9_atFrame v1 v2 1 σ) (Nat.le_of_ble_eq_true rfl) ?_
      rintro _ σ8 ⟨rfl, h8⟩
      subst σ8
      refine And.intro hp.1 ?_
      refine And.intro hp.1 ?_
      refine And.intro (fun (h1 : ¬ (σ.1 484 ((800 * (σ.1 468 16)) + (2 * (σ.1 469 (f_X9_atFrame v1 v2 1).toNatClampNeg))).toNatClampNeg) = 13) => ?_) (fun (h1 : (σ.1 484 ((800 * (σ.1 468 16)) + (2 * (σ.1 469 (f_X9_atFrame v1 v2 1).toNatClampNeg))).toNatClampNeg) = 13) => ?_)
      · refine And.intro (fun (h2 : ¬ (σ.1 484 ((800 * (σ.1 468 16)) + (2 * (σ.1 469 (f_X9_atFrame v1 v2 1).toNatClampNeg))).toNatClampNeg) = 8) => ?_) (fun (h2 : (σ.1 484 ((800 * (σ.1 468 16)) + (2 * (σ.1 469 (f_X9_atFrame v1 v2 1).toNatClampNeg))).toNatClampNeg) = 8) => ?_)
        · refine zCl.use (c_X9_doStep v1 v2 (σ.1 484 ((800 * (σ.1 468 16)) + (2 * (σ.1 469 (f_X9_atFrame v1 v2 1).toNatClampNeg))).toNatClampNeg) (σ.1 484 (((800 * (σ.1 468 16)) + (2 * (σ.1 469 (f_X9_atFrame v1 v2 1).toNatClampNeg))) + 1).toNatClampNeg) (u_X9_goOn_h0_1 N v1 v2 v3 v4 v5 v6 σ) ((hp.2.2.2.1 h1).1 h2).1) (Nat.le_of_ble_eq_true rfl) ?_
          rintro _ σ8 ⟨rfl, h8⟩
          subst σ8
          refine zWp.use (ih.1 v1 v2 0 0 0 0 (u_X9_goOn_h0_2 N v1 v2 v3 v4 v5 v6 σ) ((hp.2.2.2.1 h1).1 h2).2) (And.intro rfl (And.intro rfl (And.intro rfl trivial))) (fun v9 σ9 h9 => ?_)
          rw [l_X9_goOn, if_neg h1, if_neg h2]; exact h9
        · refine And.intro ((hp.2.2.2.1 h1).2 h2).1 ?_
          refine zWp.use (ih.2 v1 v2 ((800 * (σ.1 468 16)) + (2 * (σ.1 469 (f_X9_atFrame v1 v2 1).toNatClampNeg))) (σ.1 484 ((800 * (σ.1 468 16)) + (2 * (σ.1 469 (f_X9_atFrame v1 v2 1).toNatClampNeg))).toNatClampNeg) (σ.1 484 (((800 * (σ.1 468 16)) + (2 * (σ.1 469 (f_X9_atFrame v1 v2 1).toNatClampNeg))) + 1).toNatClampNeg) (((u_X9_goOn_h0_3 N v1 v2 v3 v4 v5 v6 σ).1 481 ((6 * ((u_X9_goOn_h0_3 N v1 v2 v3 v4 v5 v6 σ).1 468 16)) + (σ.1 484 (((800 * (σ.1 468 16)) + (2 * (σ.1 469 (f_X9_atFrame v1 v2 1).toNatClampNeg))) + 1).toNatClampNeg)).toNatClampNeg) - 1) (u_X9_goOn_h0_3 N v1 v2 v3 v4 v5 v6 σ) ((hp.2.2.2.1 h1).2 h2).2) (And.intro rfl (And.intro rfl (And.intro rfl (And.intro rfl (And.intro rfl (And.intro rfl (And.intro rfl trivial))))))) (fun v9 σ9 h9 => ?_)
          rw [l_X9_goOn, if_neg h1, if_pos h2]; exact h9
      · refine zCl.use (c_X9_take v1 (u_X9_goOn_h0_1 N v1 v2 v3 v4 v5 v6 σ) (hp.2.2.2.2 h1)) (Nat.le_of_ble_eq_true rfl) ?_
        rintro _ σ8 ⟨rfl, h8⟩
        subst σ8
        exact And.intro rfl (And.intro rfl (And.intro (Or.inl rfl) ⟨by rw [l_X9_goOn, if_pos h1] <;> rfl, by rw [l_X9_goOn, if_pos h1] <;> rfl⟩))
    · intro v1 v2 v3 v4 v5 v6 σ hp
      rw [q_X9_goOn] at hp
      refine zvc_sound (cd := kX9_goOn) (cs := [6, 112]) rfl okX9_goOn 1000 _ _ 112 (zseek kX9_goOn 112) _ _ _ zseek_sub ?_
      refine And.intro (fun (h1 : v6 < 0) => ?_) (fun (h1 : ¬ v6 < 0) => ?_)
      · exact And.intro rfl (And.intro rfl (And.intro (Or.inr rfl) ⟨by rw [l_X9_goOn, if_pos h1] <;> rfl, by rw [l_X9_goOn, if_pos h1] <;> rfl⟩))
      · refine zCl.use (c_X9_take v1 σ (hp h1).1) (Nat.le_of_ble_eq_true rfl) ?_
        rintro _ σ8 ⟨rfl, h8⟩
        subst σ8
        refine And.intro (hp h1).2.1 ?_
        refine zWp.use (ih.2 v1 v2 v3 v4 v5 (v6 + (-1)) (u_X9_goOn_h1_2 N v1 v2 v3 v4 v5 v6 σ) (hp h1).2.2) (And.intro rfl (And.intro rfl (And.intro rfl (And.intro rfl (And.intro rfl (And.intro rfl (And.intro rfl trivial))))))) (fun v9 σ9 h9 => ?_)
        rw [l_X9_goOn, if_neg h1]; exact h9
def r_X9_goOn (x1 : Int32) (N : Nat) (σ : zS) : Int32 × zS := l_X9_goOn N N 0 x1 (f_X9_frames x1 σ) 0 0 0 0 σ
def p_X9_goOn (x1 : Int32) (N : Nat) (σ : zS) : Prop := p_X9_frames x1 σ ∧ q_X9_goOn N N 0 x1 (f_X9_frames x1 σ) 0 0 0 0 σ
set_option maxRecDepth 100000 in
set_option maxHeartbeats 1000000 in
theorem c_X9_goOn {nx : Nat} (x1 : Int32) (N : Nat) (σ : zS) (hp : p_X9_goOn x1 N σ) : zCl 4 zall nx zall nx 226 [.inr (9, 57, 468), .inl x1] σ (fun v σ1 => v = some (.inl ((r_X9_goOn x1 N σ).1)) ∧ σ1 = (r_X9_goOn x1 N σ).2) := by
  refine zmeth (cd := kX9_goOn) [6, 112] 1000 (Nat.le_of_ble_eq_true rfl) rfl okX9_goOn (Nat.le_refl _) (Nat.le_of_ble_eq_true rfl) ?_
  refine zCl.use (c_X9_frames x1 σ hp.1) (Nat.le_of_ble_eq_true rfl) ?_
  rintro _ σ8 ⟨rfl, h8⟩
  subst σ8
  refine zWp.use ((w_X9_goOn N N).1 x1 (f_X9_frames x1 σ) 0 0 0 0 σ hp.2) (And.intro rfl (And.intro rfl (And.intro rfl trivial))) (fun v9 σ9 h9 => ?_)
  rw [r_X9_goOn]; exact h9
def u_X0_compute_1 (o : Nat) (x1 : Int32) (x2 : Int32) (σ : zS) : zS := s_X0_push o x2 σ
def u_X0_compute_2 (o : Nat) (x1 : Int32) (x2 : Int32) (σ : zS) : zS := s_X0_push o (f_X0_parameter o (σ.1 o 0) x2 σ) σ
def u_X0_compute_3 (o : Nat) (x1 : Int32) (x2 : Int32) (σ : zS) : zS := (r_X0_pop o σ).2
def u_X0_compute_4 (o : Nat) (x1 : Int32) (x2 : Int32) (σ : zS) : zS := s_X0_push o (-((r_X0_pop o σ).1)) (u_X0_compute_3 o x1 x2 σ)
def u_X0_compute_5 (o : Nat) (x1 : Int32) (x2 : Int32) (σ : zS) : zS := zuI σ o 1 x2
def u_X0_compute_6 (o : Nat) (x1 : Int32) (x2 : Int32) (σ : zS) : zS := s_X0_computeOfTwo o x1 x2 σ
def s_X0_compute (o : Nat) (x1 : Int32) (x2 : Int32) (σ : zS) : zS := if x1 = 0 then (u_X0_compute_1 o x1 x2 σ) else (if x1 = 1 then (u_X0_compute_2 o x1 x2 σ) else (if x1 = 2 then (u_X0_compute_4 o x1 x2 σ) else (if x1 = 11 then (u_X0_compute_5 o x1 x2 σ) else (u_X0_compute_6 o x1 x2 σ))))
def p_X0_compute (o : Nat) (x1 : Int32) (x2 : Int32) (σ : zS) : Prop := (x1 = 0 → p_X0_push o x2 σ) ∧ (¬ x1 = 0 → ((x1 = 1 → (p_X0_parameter o (σ.1 o 0) x2 σ ∧ p_X0_push o (f_X0_parameter o (σ.1 o 0) x2 σ) σ)) ∧ (¬ x1 = 1 → ((x1 = 2 → (p_X0_pop o σ ∧ p_X0_push o (-((r_X0_pop o σ).1)) (u_X0_compute_3 o x1 x2 σ))) ∧ (¬ x1 = 2 → (¬ x1 = 11 → p_X0_computeOfTwo o x1 x2 σ))))))
set_option maxRecDepth 100000 in
set_option maxHeartbeats 1000000 in
theorem c_X0_compute {nx : Nat} (o : Nat) (x1 : Int32) (x2 : Int32) (σ : zS) (hp : p_X0_compute o x1 x2 σ) : zCl 3 zall nx zall nx 10 [.inr (0, 9, o), .inl x1, .inl x2] σ (fun v σ1 => v = none ∧ σ1 = s_X0_compute o x1 x2 σ) := by
  refine zmeth (cd := kX0_compute) [] 1000 (Nat.le_of_ble_eq_true rfl) rfl okX0_compute (Nat.le_refl _) (Nat.le_of_ble_eq_true rfl) ?_
  refine And.intro (fun (h1 : x1 = 0) => ?_) (fun (h1 : ¬ x1 = 0) => ?_)
  · refine zCl.use (c_X0_push o x2 σ (hp.1 h1)) (Nat.le_of_ble_eq_true rfl) ?_
    rintro _ σ8 ⟨rfl, h8⟩
    subst σ8
    exact And.intro rfl (And.intro rfl ⟨rfl, by rw [s_X0_compute, if_pos h1] <;> rfl⟩)
  · refine And.intro (fun (h2 : x1 = 1) => ?_) (fun (h2 : ¬ x1 = 1) => ?_)
    · refine zCl.use (c_X0_parameter o (σ.1 o 0) x2 σ ((hp.2 h1).1 h2).1) (Nat.le_of_ble_eq_true rfl) ?_
      rintro _ σ8 ⟨rfl, h8⟩
      subst σ8
      refine zCl.use (c_X0_push o (f_X0_parameter o (σ.1 o 0) x2 σ) σ ((hp.2 h1).1 h2).2) (Nat.le_of_ble_eq_true rfl) ?_
      rintro _ σ8 ⟨rfl, h8⟩
      subst σ8
      exact And.intro rfl (And.intro rfl ⟨rfl, by rw [s_X0_compute, if_neg h1, if_pos h2] <;> rfl⟩)
    · refine And.intro (fun (h3 : x1 = 2) => ?_) (fun (h3 : ¬ x1 = 2) => ?_)
      · refine zCl.use (c_X0_pop o σ (((hp.2 h1).2 h2).1 h3).1) (Nat.le_of_ble_eq_true rfl) ?_
        rintro _ σ8 ⟨rfl, h8⟩
        subst σ8
        refine zCl.use (c_X0_push o (-((r_X0_pop o σ).1)) (u_X0_compute_3 o x1 x2 σ) (((hp.2 h1).2 h2).1 h3).2) (Nat.le_of_ble_eq_true rfl) ?_
        rintro _ σ8 ⟨rfl, h8⟩
        subst σ8
        exact And.intro rfl (And.intro rfl ⟨rfl, by rw [s_X0_compute, if_neg h1, if_neg h2, if_pos h3] <;> rfl⟩)
      · refine And.intro (fun (h4 : x1 = 11) => ?_) (fun (h4 : ¬ x1 = 11) => ?_)
        · exact And.intro rfl (And.intro rfl ⟨rfl, by rw [s_X0_compute, if_neg h1, if_neg h2, if_neg h3, if_pos h4] <;> rfl⟩)
        · refine zCl.use (c_X0_computeOfTwo o x1 x2 σ ((((hp.2 h1).2 h2).2 h3) h4)) (Nat.le_of_ble_eq_true rfl) ?_
          rintro _ σ8 ⟨rfl, h8⟩
          subst σ8
          exact And.intro rfl (And.intro rfl ⟨rfl, by rw [s_X0_compute, if_neg h1, if_neg h2, if_neg h3, if_neg h4] <;> rfl⟩)
def u_X1_nextAct_1 (N : Nat) (σ : zS) : zS := zuI σ 30 1 ((σ.1 30 1) + 1)
def u_X1_nextAct_2 (N : Nat) (σ : zS) : zS := zuI (u_X1_nextAct_1 N σ) 30 2 ((u_X1_nextAct_1 N σ).1 30 1)
def u_X1_nextAct_3 (N : Nat) (σ : zS) : zS := s_X4_copyFrom (f_X1_now (u_X1_nextAct_2 N σ)) (f_X1_now σ) N (u_X1_nextAct_2 N σ)
def u_X1_nextAct_4 (N : Nat) (σ : zS) : zS := s_X1_dropOldest N σ
def u_X1_nextAct_5 (N : Nat) (σ : zS) : zS := zuI (u_X1_nextAct_4 N σ) 30 2 ((u_X1_nextAct_4 N σ).1 30 1)
def u_X1_nextAct_6 (N : Nat) (σ : zS) : zS := s_X4_copyFrom (f_X1_now (u_X1_nextAct_5 N σ)) (f_X1_now σ) N (u_X1_nextAct_5 N σ)
def r_X1_nextAct (N : Nat) (σ : zS) : Nat × zS := if (σ.1 30 1) = 12 then ((f_X1_now (u_X1_nextAct_6 N σ)), (u_X1_nextAct_6 N σ)) else ((f_X1_now (u_X1_nextAct_3 N σ)), (u_X1_nextAct_3 N σ))
def p_X1_nextAct (N : Nat) (σ : zS) : Prop := p_X1_now σ ∧ ((¬ (σ.1 30 1) = 12 → (p_X1_now (u_X1_nextAct_2 N σ) ∧ (p_X4_copyFrom (f_X1_now (u_X1_nextAct_2 N σ)) (f_X1_now σ) N (u_X1_nextAct_2 N σ) ∧ p_X1_now (u_X1_nextAct_3 N σ)))) ∧ ((σ.1 30 1) = 12 → (p_X1_dropOldest N σ ∧ (p_X1_now (u_X1_nextAct_5 N σ) ∧ (p_X4_copyFrom (f_X1_now (u_X1_nextAct_5 N σ)) (f_X1_now σ) N (u_X1_nextAct_5 N σ) ∧ p_X1_now (u_X1_nextAct_6 N σ))))))
set_option maxRecDepth 100000 in
set_option maxHeartbeats 1000000 in
theorem c_X1_nextAct {nx : Nat} (N : Nat) (σ : zS) (hp : p_X1_nextAct N σ) : zCl 4 zall nx zall nx 18 [.inr (1, 3, 30)] σ (fun v σ1 => v = some (.inr (4, 17, ((r_X1_nextAct N σ).1))) ∧ σ1 = (r_X1_nextAct N σ).2) := by
  refine zmeth (cd := kX1_nextAct) [] 1000 (Nat.le_of_ble_eq_true rfl) rfl okX1_nextAct (Nat.le_refl _) (Nat.le_of_ble_eq_true rfl) ?_
  refine zCl.use (c_X1_now σ hp.1) (Nat.le_of_ble_eq_true rfl) ?_
  rintro _ σ8 ⟨rfl, h8⟩
  subst σ8
  refine And.intro (fun (h1 : ¬ (σ.1 30 1) = 12) => ?_) (fun (h1 : (σ.1 30 1) = 12) => ?_)
  · refine zCl.use (c_X1_now (u_X1_nextAct_2 N σ) (hp.2.1 h1).1) (Nat.le_of_ble_eq_true rfl) ?_
    rintro _ σ8 ⟨rfl, h8⟩
    subst σ8
    refine zCl.use (c_X4_copyFrom (f_X1_now (u_X1_nextAct_2 N σ)) (f_X1_now σ) N (u_X1_nextAct_2 N σ) (hp.2.1 h1).2.1) (Nat.le_of_ble_eq_true rfl) ?_
    rintro _ σ8 ⟨rfl, h8⟩
    subst σ8
    refine zCl.use (c_X1_now (u_X1_nextAct_3 N σ) (hp.2.1 h1).2.2) (Nat.le_of_ble_eq_true rfl) ?_
    rintro _ σ8 ⟨rfl, h8⟩
    subst σ8
    exact And.intro rfl (And.intro rfl ⟨by rw [r_X1_nextAct, if_neg h1] <;> rfl, by rw [r_X1_nextAct, if_neg h1] <;> rfl⟩)
  · refine zCl.use (c_X1_dropOldest N σ (hp.2.2 h1).1) (Nat.le_of_ble_eq_true rfl) ?_
    rintro _ σ8 ⟨rfl, h8⟩
    subst σ8
    refine zCl.use (c_X1_now (u_X1_nextAct_5 N σ) (hp.2.2 h1).2.1) (Nat.le_of_ble_eq_true rfl) ?_
    rintro _ σ8 ⟨rfl, h8⟩
    subst σ8
    refine zCl.use (c_X4_copyFrom (f_X1_now (u_X1_nextAct_5 N σ)) (f_X1_now σ) N (u_X1_nextAct_5 N σ) (hp.2.2 h1).2.2.1) (Nat.le_of_ble_eq_true rfl) ?_
    rintro _ σ8 ⟨rfl, h8⟩
    subst σ8
    refine zCl.use (c_X1_now (u_X1_nextAct_6 N σ) (hp.2.2 h1).2.2.2) (Nat.le_of_ble_eq_true rfl) ?_
    rintro _ σ8 ⟨rfl, h8⟩
    subst σ8
    exact And.intro rfl (And.intro rfl ⟨by rw [r_X1_nextAct, if_pos h1] <;> rfl, by rw [r_X1_nextAct, if_pos h1] <;> rfl⟩)
def u_X9_scan_h0_1 (N : Nat) (σ : zS) : zS := zuI σ 468 20 ((σ.1 468 21) + 1)
def u_X9_scan_h0_2 (N : Nat) (σ : zS) : zS := zuI (u_X9_scan_h0_1 N σ) 468 22 1
def u_X9_scan_h0_3 (N : Nat) (σ : zS) : zS := zuI (u_X9_scan_h0_1 N σ) 468 22 4
def u_X9_scan_h0_4 (N : Nat) (σ : zS) : zS := s_X9_scanNumber N (u_X9_scan_h0_1 N σ)
def u_X9_scan_h0_5 (N : Nat) (σ : zS) : zS := s_X9_scanWord N (u_X9_scan_h0_1 N σ)
def u_X9_scan_h0_6 (N : Nat) (σ : zS) : zS := zuI (u_X9_scan_h0_1 N σ) 468 20 ((u_X9_scan_h0_1 N σ).1 468 21)
def u_X9_scan_h0_7 (N : Nat) (σ : zS) : zS := zuI (u_X9_scan_h0_6 N σ) 468 22 0
def u_X9_scan_h0_8 (N : Nat) (σ : zS) : zS := zuI σ 468 21 ((σ.1 468 21) + 1)
def l_X9_scan (N : Nat) : Nat → zS → zS
  | 0, σ => σ
  | n + 1, σ => if (f_X9_isBlank (σ.1 468 21) σ) = 0 then (if ((u_X9_scan_h0_1 N σ).1 468 21) < ((u_X9_scan_h0_1 N σ).1 468 19) then (if (f_X9_isLetter (f_X9_signAt ((u_X9_scan_h0_1 N σ).1 468 21) (u_X9_scan_h0_1 N σ))) = 0 then (if (f_X9_isDigit (f_X9_signAt ((u_X9_scan_h0_1 N σ).1 468 21) (u_X9_scan_h0_1 N σ))) = 0 then (if (f_X9_isSign (f_X9_signAt ((u_X9_scan_h0_1 N σ).1 468 21) (u_X9_scan_h0_1 N σ))) = 0 then (u_X9_scan_h0_2 N σ) else (u_X9_scan_h0_3 N σ)) else (u_X9_scan_h0_4 N σ)) else (u_X9_scan_h0_5 N σ)) else (u_X9_scan_h0_7 N σ)) else (l_X9_scan N n (u_X9_scan_h0_8 N σ))
def q_X9_scan (N : Nat) : Nat → zS → Prop
  | 0, _ => False
  | n + 1, σ => p_X9_isBlank (σ.1 468 21) σ ∧ (((f_X9_isBlank (σ.1 468 21) σ) = 0 → (p_X9_signAt ((u_X9_scan_h0_1 N σ).1 468 21) (u_X9_scan_h0_1 N σ) ∧ (((u_X9_scan_h0_1 N σ).1 468 21) < ((u_X9_scan_h0_1 N σ).1 468 19) → (((f_X9_isLetter (f_X9_signAt ((u_X9_scan_h0_1 N σ).1 468 21) (u_X9_scan_h0_1 N σ))) = 0 → (¬ (f_X9_isDigit (f_X9_signAt ((u_X9_scan_h0_1 N σ).1 468 21) (u_X9_scan_h0_1 N σ))) = 0 → p_X9_scanNumber N (u_X9_scan_h0_1 N σ))) ∧ (¬ (f_X9_isLetter (f_X9_signAt ((u_X9_scan_h0_1 N σ).1 468 21) (u_X9_scan_h0_1 N σ))) = 0 → p_X9_scanWord N (u_X9_scan_h0_1 N σ)))))) ∧ (¬ (f_X9_isBlank (σ.1 468 21) σ) = 0 → q_X9_scan N n (u_X9_scan_h0_8 N σ)))
set_option maxRecDepth 100000 in
set_option maxHeartbeats 1000000 in
theorem w_X9_scan {nx : Nat} (N : Nat) : ∀ n : Nat, (∀ (σ : zS), q_X9_scan N n σ → zWp 3 zall nx 163 (fun v σ1 => v = none ∧ σ1 = l_X9_scan N n σ) zall nx 8 [some (.inr (9, 57, 468)), none] [] σ) := by
  intro n
  induction n with
  | zero => exact fun _ h => h.elim
  | succ n ih =>
    intro σ hp
    rw [q_X9_scan] at hp
    refine zvc_sound (cd := kX9_scan) (cs := [8]) rfl okX9_scan 1000 _ _ 8 (zseek kX9_scan 8) _ _ _ zseek_sub ?_
    refine zCl.use (c_X9_isBlank (σ.1 468 21) σ hp.1) (Nat.le_of_ble_eq_true rfl) ?_
    rintro _ σ8 ⟨rfl, h8⟩
    subst σ8
    refine And.intro (fun (h1 : (f_X9_isBlank (σ.1 468 21) σ) = 0) => ?_) (fun (h1 : ¬ (f_X9_isBlank (σ.1 468 21) σ) = 0) => ?_)
    · refine zCl.use (c_X9_signAt ((u_X9_scan_h0_1 N σ).1 468 21) (u_X9_scan_h0_1 N σ) (hp.2.1 h1).1) (Nat.le_of_ble_eq_true rfl) ?_
      rintro _ σ8 ⟨rfl, h8⟩
      subst σ8
      refine And.intro (fun (h2 : ((u_X9_scan_h0_1 N σ).1 468 21) < ((u_X9_scan_h0_1 N σ).1 468 19)) => ?_) (fun (h2 : ¬ ((u_X9_scan_h0_1 N σ).1 468 21) < ((u_X9_scan_h0_1 N σ).1 468 19)) => ?_)
      · refine zCl.use (c_X9_isLetter (f_X9_signAt ((u_X9_scan_h0_1 N σ).1 468 21) (u_X9_scan_h0_1 N σ)) (u_X9_scan_h0_1 N σ)) (Nat.le_of_ble_eq_true rfl) ?_
        rintro _ σ8 ⟨rfl, h8⟩
        subst σ8
        refine And.intro (fun (h3 : (f_X9_isLetter (f_X9_signAt ((u_X9_scan_h0_1 N σ).1 468 21) (u_X9_scan_h0_1 N σ))) = 0) => ?_) (fun (h3 : ¬ (f_X9_isLetter (f_X9_signAt ((u_X9_scan_h0_1 N σ).1 468 21) (u_X9_scan_h0_1 N σ))) = 0) => ?_)
        · refine zCl.use (c_X9_isDigit (f_X9_signAt ((u_X9_scan_h0_1 N σ).1 468 21) (u_X9_scan_h0_1 N σ)) (u_X9_scan_h0_1 N σ)) (Nat.le_of_ble_eq_true rfl) ?_
          rintro _ σ8 ⟨rfl, h8⟩
          subst σ8
          refine And.intro (fun (h4 : (f_X9_isDigit (f_X9_signAt ((u_X9_scan_h0_1 N σ).1 468 21) (u_X9_scan_h0_1 N σ))) = 0) => ?_) (fun (h4 : ¬ (f_X9_isDigit (f_X9_signAt ((u_X9_scan_h0_1 N σ).1 468 21) (u_X9_scan_h0_1 N σ))) = 0) => ?_)
          · refine zCl.use (c_X9_isSign (f_X9_signAt ((u_X9_scan_h0_1 N σ).1 468 21) (u_X9_scan_h0_1 N σ)) (u_X9_scan_h0_1 N σ)) (Nat.le_of_ble_eq_true rfl) ?_
            rintro _ σ8 ⟨rfl, h8⟩
            subst σ8
            refine And.intro (fun (h5 : (f_X9_isSign (f_X9_signAt ((u_X9_scan_h0_1 N σ).1 468 21) (u_X9_scan_h0_1 N σ))) = 0) => ?_) (fun (h5 : ¬ (f_X9_isSign (f_X9_signAt ((u_X9_scan_h0_1 N σ).1 468 21) (u_X9_scan_h0_1 N σ))) = 0) => ?_)
            · exact And.intro rfl (And.intro rfl ⟨rfl, by rw [l_X9_scan, if_pos h1, if_pos h2, if_pos h3, if_pos h4, if_pos h5] <;> rfl⟩)
            · exact And.intro rfl (And.intro rfl ⟨rfl, by rw [l_X9_scan, if_pos h1, if_pos h2, if_pos h3, if_pos h4, if_neg h5] <;> rfl⟩)
          · refine zCl.use (c_X9_scanNumber N (u_X9_scan_h0_1 N σ) ((((hp.2.1 h1).2 h2).1 h3) h4)) (Nat.le_of_ble_eq_true rfl) ?_
            rintro _ σ8 ⟨rfl, h8⟩
            subst σ8
            exact And.intro rfl (And.intro rfl ⟨rfl, by rw [l_X9_scan, if_pos h1, if_pos h2, if_pos h3, if_neg h4] <;> rfl⟩)
        · refine zCl.use (c_X9_scanWord N (u_X9_scan_h0_1 N σ) (((hp.2.1 h1).2 h2).2 h3)) (Nat.le_of_ble_eq_true rfl) ?_
          rintro _ σ8 ⟨rfl, h8⟩
          subst σ8
          exact And.intro rfl (And.intro rfl ⟨rfl, by rw [l_X9_scan, if_pos h1, if_pos h2, if_neg h3] <;> rfl⟩)
      · exact And.intro rfl (And.intro rfl ⟨rfl, by rw [l_X9_scan, if_pos h1, if_neg h2] <;> rfl⟩)
    · refine zWp.use (ih (u_X9_scan_h0_8 N σ) (hp.2.2 h1)) (And.intro rfl trivial) (fun v9 σ9 h9 => ?_)
      rw [l_X9_scan, if_neg h1]; exact h9
def u_X9_scan_1 (N : Nat) (σ : zS) : zS := zuI σ 468 21 (σ.1 468 20)
def s_X9_scan (N : Nat) (σ : zS) : zS := l_X9_scan N N (u_X9_scan_1 N σ)
def p_X9_scan (N : Nat) (σ : zS) : Prop := q_X9_scan N N (u_X9_scan_1 N σ)
set_option maxRecDepth 100000 in
set_option maxHeartbeats 1000000 in
theorem c_X9_scan {nx : Nat} (N : Nat) (σ : zS) (hp : p_X9_scan N σ) : zCl 3 zall nx zall nx 163 [.inr (9, 57, 468)] σ (fun v σ1 => v = none ∧ σ1 = s_X9_scan N σ) := by
  refine zmeth (cd := kX9_scan) [8] 1000 (Nat.le_of_ble_eq_true rfl) rfl okX9_scan (Nat.le_refl _) (Nat.le_of_ble_eq_true rfl) ?_
  refine zWp.use ((w_X9_scan N N) (u_X9_scan_1 N σ) hp) (And.intro rfl trivial) (fun v9 σ9 h9 => ?_)
  rw [s_X9_scan]; exact h9
def u_X9_numeral_1 (x1 : Int32) (x2 : Int32) (N : Nat) (σ : zS) : zS := s_X9_scan N σ
def u_X9_numeral_2 (x1 : Int32) (x2 : Int32) (N : Nat) (σ : zS) : zS := s_X9_fail 2 σ
def u_X9_numeral_3 (x1 : Int32) (x2 : Int32) (N : Nat) (σ : zS) : zS := s_X9_scan N (u_X9_numeral_2 x1 x2 N σ)
def u_X9_numeral_4 (x1 : Int32) (x2 : Int32) (N : Nat) (σ : zS) : zS := s_X9_fail 1 σ
def u_X9_numeral_5 (x1 : Int32) (x2 : Int32) (N : Nat) (σ : zS) : zS := s_X9_scan N (u_X9_numeral_4 x1 x2 N σ)
def r_X9_numeral (x1 : Int32) (x2 : Int32) (N : Nat) (σ : zS) : Int32 × zS := if (σ.1 468 22) = 3 then (if (f_X9_isIn (σ.1 468 23) x1 x2) = 0 then (if ((u_X9_numeral_2 x1 x2 N σ).1 468 25) = 0 then ((u_X9_numeral_2 x1 x2 N σ).1 468 23, (u_X9_numeral_3 x1 x2 N σ)) else ((u_X9_numeral_2 x1 x2 N σ).1 468 23, (u_X9_numeral_2 x1 x2 N σ))) else (if (σ.1 468 25) = 0 then (σ.1 468 23, (u_X9_numeral_1 x1 x2 N σ)) else (σ.1 468 23, σ))) else (if ((u_X9_numeral_4 x1 x2 N σ).1 468 25) = 0 then ((u_X9_numeral_4 x1 x2 N σ).1 468 23, (u_X9_numeral_5 x1 x2 N σ)) else ((u_X9_numeral_4 x1 x2 N σ).1 468 23, (u_X9_numeral_4 x1 x2 N σ)))
def p_X9_numeral (x1 : Int32) (x2 : Int32) (N : Nat) (σ : zS) : Prop := ((σ.1 468 22) = 3 → ((¬ (f_X9_isIn (σ.1 468 23) x1 x2) = 0 → ((σ.1 468 25) = 0 → p_X9_scan N σ)) ∧ ((f_X9_isIn (σ.1 468 23) x1 x2) = 0 → (((u_X9_numeral_2 x1 x2 N σ).1 468 25) = 0 → p_X9_scan N (u_X9_numeral_2 x1 x2 N σ))))) ∧ (¬ (σ.1 468 22) = 3 → (((u_X9_numeral_4 x1 x2 N σ).1 468 25) = 0 → p_X9_scan N (u_X9_numeral_4 x1 x2 N σ)))
set_option maxRecDepth 100000 in
set_option maxHeartbeats 1000000 in
theorem c_X9_numeral {nx : Nat} (x1 : Int32) (x2 : Int32) (N : Nat) (σ : zS) (hp : p_X9_numeral x1 x2 N σ) : zCl 4 zall nx zall nx 172 [.inr (9, 57, 468), .inl x1, .inl x2] σ (fun v σ1 => v = some (.inl ((r_X9_numeral x1 x2 N σ).1)) ∧ σ1 = (r_X9_numeral x1 x2 N σ).2) := by
  refine zmeth (cd := kX9_numeral) [] 1000 (Nat.le_of_ble_eq_true rfl) rfl okX9_numeral (Nat.le_refl _) (Nat.le_of_ble_eq_true rfl) ?_
  refine And.intro (fun (h1 : (σ.1 468 22) = 3) => ?_) (fun (h1 : ¬ (σ.1 468 22) = 3) => ?_)
  · refine zCl.use (c_X9_isIn (σ.1 468 23) x1 x2 σ) (Nat.le_of_ble_eq_true rfl) ?_
    rintro _ σ8 ⟨rfl, h8⟩
    subst σ8
    refine And.intro (fun (h2 : ¬ (f_X9_isIn (σ.1 468 23) x1 x2) = 0) => ?_) (fun (h2 : (f_X9_isIn (σ.1 468 23) x1 x2) = 0) => ?_)
    · refine And.intro (fun (h3 : ¬ (σ.1 468 25) = 0) => ?_) (fun (h3 : (σ.1 468 25) = 0) => ?_)
      · exact And.intro rfl (And.intro rfl ⟨by rw [r_X9_numeral, if_pos h1, if_neg h2, if_neg h3] <;> rfl, by rw [r_X9_numeral, if_pos h1, if_neg h2, if_neg h3] <;> rfl⟩)
      · refine zCl.use (c_X9_scan N σ (((hp.1 h1).1 h2) h3)) (Nat.le_of_ble_eq_true rfl) ?_
        rintro _ σ8 ⟨rfl, h8⟩
        subst σ8
        exact And.intro rfl (And.intro rfl ⟨by rw [r_X9_numeral, if_pos h1, if_neg h2, if_pos h3] <;> rfl, by rw [r_X9_numeral, if_pos h1, if_neg h2, if_pos h3] <;> rfl⟩)
    · refine zCl.use (c_X9_fail 2 σ) (Nat.le_of_ble_eq_true rfl) ?_
      rintro _ σ8 ⟨rfl, h8⟩
      subst σ8
      refine And.intro (fun (h4 : ¬ ((u_X9_numeral_2 x1 x2 N σ).1 468 25) = 0) => ?_) (fun (h4 : ((u_X9_numeral_2 x1 x2 N σ).1 468 25) = 0) => ?_)
      · exact And.intro rfl (And.intro rfl ⟨by rw [r_X9_numeral, if_pos h1, if_pos h2, if_neg h4] <;> rfl, by rw [r_X9_numeral, if_pos h1, if_pos h2, if_neg h4] <;> rfl⟩)
      · refine zCl.use (c_X9_scan N (u_X9_numeral_2 x1 x2 N σ) (((hp.1 h1).2 h2) h4)) (Nat.le_of_ble_eq_true rfl) ?_
        rintro _ σ8 ⟨rfl, h8⟩
        subst σ8
        exact And.intro rfl (And.intro rfl ⟨by rw [r_X9_numeral, if_pos h1, if_pos h2, if_pos h4] <;> rfl, by rw [r_X9_numeral, if_pos h1, if_pos h2, if_pos h4] <;> rfl⟩)
  · refine zCl.use (c_X9_fail 1 σ) (Nat.le_of_ble_eq_true rfl) ?_
    rintro _ σ8 ⟨rfl, h8⟩
    subst σ8
    refine And.intro (fun (h5 : ¬ ((u_X9_numeral_4 x1 x2 N σ).1 468 25) = 0) => ?_) (fun (h5 : ((u_X9_numeral_4 x1 x2 N σ).1 468 25) = 0) => ?_)
    · exact And.intro rfl (And.intro rfl ⟨by rw [r_X9_numeral, if_neg h1, if_neg h5] <;> rfl, by rw [r_X9_numeral, if_neg h1, if_neg h5] <;> rfl⟩)
    · refine zCl.use (c_X9_scan N (u_X9_numeral_4 x1 x2 N σ) ((hp.2 h1) h5)) (Nat.le_of_ble_eq_true rfl) ?_
      rintro _ σ8 ⟨rfl, h8⟩
      subst σ8
      exact And.intro rfl (And.intro rfl ⟨by rw [r_X9_numeral, if_neg h1, if_pos h5] <;> rfl, by rw [r_X9_numeral, if_neg h1, if_pos h5] <;> rfl⟩)
def u_X9_readWay_h0_1 (N : Nat) (v1 : Int32) (σ : zS) : zS := s_X9_scan N σ
def u_X9_readWay_h0_2 (N : Nat) (v1 : Int32) (σ : zS) : zS := (r_X9_numeral 1 8 N (u_X9_readWay_h0_1 N v1 σ)).2
def u_X9_readWay_h0_3 (N : Nat) (v1 : Int32) (σ : zS) : zS := zuI (u_X9_readWay_h0_2 N v1 σ) 472 (v1).toNatClampNeg ((r_X9_numeral 1 8 N (u_X9_readWay_h0_1 N v1 σ)).1)
def u_X9_readWay_h1_1 (N : Nat) (v1 : Int32) (σ : zS) : zS := (r_X9_numeral 1 16 N σ).2
def u_X9_readWay_h1_2 (N : Nat) (v1 : Int32) (σ : zS) : zS := zuI (u_X9_readWay_h1_1 N v1 σ) 472 (v1).toNatClampNeg ((r_X9_numeral 1 16 N σ).1)
def l_X9_readWay (N : Nat) : Nat → Nat → Int32 → zS → zS
  | 0, _, _, σ => σ
  | n + 1, 0, v1, σ => if (σ.1 468 25) ≤ 0 then (if ((u_X9_readWay_h0_1 N v1 σ).1 471 (v1).toNatClampNeg) = 1 then (l_X9_readWay N n 1 v1 (u_X9_readWay_h0_3 N v1 σ)) else (l_X9_readWay N n 1 v1 (u_X9_readWay_h0_1 N v1 σ))) else σ
  | n + 1, _, v1, σ => if (σ.1 471 (v1).toNatClampNeg) = 3 then (u_X9_readWay_h1_2 N v1 σ) else σ
def q_X9_readWay (N : Nat) : Nat → Nat → Int32 → zS → Prop
  | 0, _, _, _ => False
  | n + 1, 0, v1, σ => (σ.1 468 25) ≤ 0 → (p_X9_scan N σ ∧ (vp_in v1 2 ∧ ((¬ ((u_X9_readWay_h0_1 N v1 σ).1 471 (v1).toNatClampNeg) = 1 → q_X9_readWay N n 1 v1 (u_X9_readWay_h0_1 N v1 σ)) ∧ (((u_X9_readWay_h0_1 N v1 σ).1 471 (v1).toNatClampNeg) = 1 → (p_X9_numeral 1 8 N (u_X9_readWay_h0_1 N v1 σ) ∧ q_X9_readWay N n 1 v1 (u_X9_readWay_h0_3 N v1 σ))))))
  | n + 1, _, v1, σ => vp_in v1 2 ∧ ((σ.1 471 (v1).toNatClampNeg) = 3 → p_X9_numeral 1 16 N σ)
set_option maxRecDepth 100000 in
set_option maxHeartbeats 1000000 in
theorem w_X9_readWay {nx : Nat} (N : Nat) : ∀ n : Nat, (∀ (v1 : Int32) (σ : zS), q_X9_readWay N n 0 v1 σ → zWp 5 zall nx 180 (fun v σ1 => v = none ∧ σ1 = l_X9_readWay N n 0 v1 σ) zall nx 70 [some (.inr (9, 57, 468)), some (.inl v1)] [] σ) ∧ (∀ (v1 : Int32) (σ : zS), q_X9_readWay N n 1 v1 σ → zWp 5 zall nx 180 (fun v σ1 => v = none ∧ σ1 = l_X9_readWay N n 1 v1 σ) zall nx 105 [some (.inr (9, 57, 468)), some (.inl v1)] [] σ) := by
  intro n
  induction n with
  | zero => exact ⟨fun _ _ h => h.elim, fun _ _ h => h.elim⟩
  | succ n ih =>
    refine ⟨?_, ?_⟩
    · intro v1 σ hp
      rw [q_X9_readWay] at hp
      refine zvc_sound (cd := kX9_readWay) (cs := [70, 105]) rfl okX9_readWay 1000 _ _ 70 (zseek kX9_readWay 70) _ _ _ zseek_sub ?_
      refine And.intro (fun (h1 : (σ.1 468 25) ≤ 0) => ?_) (fun (h1 : ¬ (σ.1 468 25) ≤ 0) => ?_)
      · refine zCl.use (c_X9_scan N σ (hp h1).1) (Nat.le_of_ble_eq_true rfl) ?_
        rintro _ σ8 ⟨rfl, h8⟩
        subst σ8
        refine And.intro (hp h1).2.1 ?_
        refine And.intro (fun (h2 : ¬ ((u_X9_readWay_h0_1 N v1 σ).1 471 (v1).toNatClampNeg) = 1) => ?_) (fun (h2 : ((u_X9_readWay_h0_1 N v1 σ).1 471 (v1).toNatClampNeg) = 1) => ?_)
        · refine zWp.use (ih.2 v1 (u_X9_readWay_h0_1 N v1 σ) ((hp h1).2.2.1 h2)) (And.intro rfl (And.intro rfl trivial)) (fun v9 σ9 h9 => ?_)
          rw [l_X9_readWay, if_pos h1, if_neg h2]; exact h9
        · refine zCl.use (c_X9_numeral 1 8 N (u_X9_readWay_h0_1 N v1 σ) ((hp h1).2.2.2 h2).1) (Nat.le_of_ble_eq_true rfl) ?_
          rintro _ σ8 ⟨rfl, h8⟩
          subst σ8
          refine And.intro (hp h1).2.1 ?_
          refine zWp.use (ih.2 v1 (u_X9_readWay_h0_3 N v1 σ) ((hp h1).2.2.2 h2).2) (And.intro rfl (And.intro rfl trivial)) (fun v9 σ9 h9 => ?_)
          rw [l_X9_readWay, if_pos h1, if_pos h2]; exact h9
      · exact And.intro rfl (And.intro rfl ⟨rfl, by rw [l_X9_readWay, if_neg h1] <;> rfl⟩)
    · intro v1 σ hp
      rw [q_X9_readWay] at hp
      refine zvc_sound (cd := kX9_readWay) (cs := [70, 105]) rfl okX9_readWay 1000 _ _ 105 (zseek kX9_readWay 105) _ _ _ zseek_sub ?_
      refine And.intro hp.1 ?_
      refine And.intro (fun (h1 : ¬ (σ.1 471 (v1).toNatClampNeg) = 3) => ?_) (fun (h1 : (σ.1 471 (v1).toNatClampNeg) = 3) => ?_)
      · exact And.intro rfl (And.intro rfl ⟨rfl, by rw [l_X9_readWay, if_neg h1] <;> rfl⟩)
      · refine zCl.use (c_X9_numeral 1 16 N σ (hp.2 h1)) (Nat.le_of_ble_eq_true rfl) ?_
        rintro _ σ8 ⟨rfl, h8⟩
        subst σ8
        refine And.intro hp.1 ?_
        exact And.intro rfl (And.intro rfl ⟨rfl, by rw [l_X9_readWay, if_pos h1] <;> rfl⟩)
def u_X9_readWay_1 (x1 : Int32) (N : Nat) (σ : zS) : zS := zuI σ 471 (x1).toNatClampNeg 3
def u_X9_readWay_2 (x1 : Int32) (N : Nat) (σ : zS) : zS := s_X9_fail 1 (u_X9_readWay_1 x1 N σ)
def u_X9_readWay_3 (x1 : Int32) (N : Nat) (σ : zS) : zS := zuI σ 471 (x1).toNatClampNeg 2
def u_X9_readWay_4 (x1 : Int32) (N : Nat) (σ : zS) : zS := s_X9_fail 1 (u_X9_readWay_3 x1 N σ)
def u_X9_readWay_5 (x1 : Int32) (N : Nat) (σ : zS) : zS := zuI σ 471 (x1).toNatClampNeg 1
def u_X9_readWay_6 (x1 : Int32) (N : Nat) (σ : zS) : zS := s_X9_fail 1 (u_X9_readWay_5 x1 N σ)
def u_X9_readWay_7 (x1 : Int32) (N : Nat) (σ : zS) : zS := zuI σ 471 (x1).toNatClampNeg 0
def u_X9_readWay_8 (x1 : Int32) (N : Nat) (σ : zS) : zS := s_X9_fail 1 (u_X9_readWay_7 x1 N σ)
def s_X9_readWay (x1 : Int32) (N : Nat) (σ : zS) : zS := if (f_X9_isWord 6 σ) = 0 then (if (f_X9_isWord 7 σ) = 0 then (if (f_X9_isWord 8 σ) = 0 then (if ((u_X9_readWay_1 x1 N σ).1 471 (x1).toNatClampNeg) = 3 then (if (f_X9_isWord 9 (u_X9_readWay_1 x1 N σ)) = 0 then (l_X9_readWay N N 0 x1 (u_X9_readWay_2 x1 N σ)) else (l_X9_readWay N N 0 x1 (u_X9_readWay_1 x1 N σ))) else (l_X9_readWay N N 0 x1 (u_X9_readWay_1 x1 N σ))) else (if ((u_X9_readWay_3 x1 N σ).1 471 (x1).toNatClampNeg) = 3 then (if (f_X9_isWord 9 (u_X9_readWay_3 x1 N σ)) = 0 then (l_X9_readWay N N 0 x1 (u_X9_readWay_4 x1 N σ)) else (l_X9_readWay N N 0 x1 (u_X9_readWay_3 x1 N σ))) else (l_X9_readWay N N 0 x1 (u_X9_readWay_3 x1 N σ)))) else (if ((u_X9_readWay_5 x1 N σ).1 471 (x1).toNatClampNeg) = 3 then (if (f_X9_isWord 9 (u_X9_readWay_5 x1 N σ)) = 0 then (l_X9_readWay N N 0 x1 (u_X9_readWay_6 x1 N σ)) else (l_X9_readWay N N 0 x1 (u_X9_readWay_5 x1 N σ))) else (l_X9_readWay N N 0 x1 (u_X9_readWay_5 x1 N σ)))) else (if ((u_X9_readWay_7 x1 N σ).1 471 (x1).toNatClampNeg) = 3 then (if (f_X9_isWord 9 (u_X9_readWay_7 x1 N σ)) = 0 then (l_X9_readWay N N 0 x1 (u_X9_readWay_8 x1 N σ)) else (l_X9_readWay N N 0 x1 (u_X9_readWay_7 x1 N σ))) else (l_X9_readWay N N 0 x1 (u_X9_readWay_7 x1 N σ)))
def p_X9_readWay (x1 : Int32) (N : Nat) (σ : zS) : Prop := ((f_X9_isWord 6 σ) = 0 → (((f_X9_isWord 7 σ) = 0 → (((f_X9_isWord 8 σ) = 0 → (vp_in x1 2 ∧ ((¬ ((u_X9_readWay_1 x1 N σ).1 471 (x1).toNatClampNeg) = 3 → q_X9_readWay N N 0 x1 (u_X9_readWay_1 x1 N σ)) ∧ (((u_X9_readWay_1 x1 N σ).1 471 (x1).toNatClampNeg) = 3 → ((¬ (f_X9_isWord 9 (u_X9_readWay_1 x1 N σ)) = 0 → q_X9_readWay N N 0 x1 (u_X9_readWay_1 x1 N σ)) ∧ ((f_X9_isWord 9 (u_X9_readWay_1 x1 N σ)) = 0 → q_X9_readWay N N 0 x1 (u_X9_readWay_2 x1 N σ))))))) ∧ (¬ (f_X9_isWord 8 σ) = 0 → (vp_in x1 2 ∧ ((¬ ((u_X9_readWay_3 x1 N σ).1 471 (x1).toNatClampNeg) = 3 → q_X9_readWay N N 0 x1 (u_X9_readWay_3 x1 N σ)) ∧ (((u_X9_readWay_3 x1 N σ).1 471 (x1).toNatClampNeg) = 3 → ((¬ (f_X9_isWord 9 (u_X9_readWay_3 x1 N σ)) = 0 → q_X9_readWay N N 0 x1 (u_X9_readWay_3 x1 N σ)) ∧ ((f_X9_isWord 9 (u_X9_readWay_3 x1 N σ)) = 0 → q_X9_readWay N N 0 x1 (u_X9_readWay_4 x1 N σ))))))))) ∧ (¬ (f_X9_isWord 7 σ) = 0 → (vp_in x1 2 ∧ ((¬ ((u_X9_readWay_5 x1 N σ).1 471 (x1).toNatClampNeg) = 3 → q_X9_readWay N N 0 x1 (u_X9_readWay_5 x1 N σ)) ∧ (((u_X9_readWay_5 x1 N σ).1 471 (x1).toNatClampNeg) = 3 → ((¬ (f_X9_isWord 9 (u_X9_readWay_5 x1 N σ)) = 0 → q_X9_readWay N N 0 x1 (u_X9_readWay_5 x1 N σ)) ∧ ((f_X9_isWord 9 (u_X9_readWay_5 x1 N σ)) = 0 → q_X9_readWay N N 0 x1 (u_X9_readWay_6 x1 N σ))))))))) ∧ (¬ (f_X9_isWord 6 σ) = 0 → (vp_in x1 2 ∧ ((¬ ((u_X9_readWay_7 x1 N σ).1 471 (x1).toNatClampNeg) = 3 → q_X9_readWay N N 0 x1 (u_X9_readWay_7 x1 N σ)) ∧ (((u_X9_readWay_7 x1 N σ).1 471 (x1).toNatClampNeg) = 3 → ((¬ (f_X9_isWord 9 (u_X9_readWay_7 x1 N σ)) = 0 → q_X9_readWay N N 0 x1 (u_X9_readWay_7 x1 N σ)) ∧ ((f_X9_isWord 9 (u_X9_readWay_7 x1 N σ)) = 0 → q_X9_readWay N N 0 x1 (u_X9_readWay_8 x1 N σ)))))))
set_option maxRecDepth 100000 in
set_option maxHeartbeats 1000000 in
theorem c_X9_readWay {nx : Nat} (x1 : Int32) (N : Nat) (σ : zS) (hp : p_X9_readWay x1 N σ) : zCl 5 zall nx zall nx 180 [.inr (9, 57, 468), .inl x1] σ (fun v σ1 => v = none ∧ σ1 = s_X9_readWay x1 N σ) := by
  refine zmeth (cd := kX9_readWay) [70, 105] 1000 (Nat.le_of_ble_eq_true rfl) rfl okX9_readWay (Nat.le_refl _) (Nat.le_of_ble_eq_true rfl) ?_
  refine zCl.use (c_X9_isWord 6 σ) (Nat.le_of_ble_eq_true rfl) ?_
  rintro _ σ8 ⟨rfl, h8⟩
  subst σ8
  refine And.intro (fun (h1 : (f_X9_isWord 6 σ) = 0) => ?_) (fun (h1 : ¬ (f_X9_isWord 6 σ) = 0) => ?_)
  · refine zCl.use (c_X9_isWord 7 σ) (Nat.le_of_ble_eq_true rfl) ?_
    rintro _ σ8 ⟨rfl, h8⟩
    subst σ8
    refine And.intro (fun (h2 : (f_X9_isWord 7 σ) = 0) => ?_) (fun (h2 : ¬ (f_X9_isWord 7 σ) = 0) => ?_)
    · refine zCl.use (c_X9_isWord 8 σ) (Nat.le_of_ble_eq_true rfl) ?_
      rintro _ σ8 ⟨rfl, h8⟩
      subst σ8
      refine And.intro (fun (h3 : (f_X9_isWord 8 σ) = 0) => ?_) (fun (h3 : ¬ (f_X9_isWord 8 σ) = 0) => ?_)
      · refine And.intro (((hp.1 h1).1 h2).1 h3).1 ?_
        refine And.intro (((hp.1 h1).1 h2).1 h3).1 ?_
        refine And.intro (fun (h4 : ¬ ((u_X9_readWay_1 x1 N σ).1 471 (x1).toNatClampNeg) = 3) => ?_) (fun (h4 : ((u_X9_readWay_1 x1 N σ).1 471 (x1).toNatClampNeg) = 3) => ?_)
        · refine zWp.use ((w_X9_readWay N N).1 x1 (u_X9_readWay_1 x1 N σ) ((((hp.1 h1).1 h2).1 h3).2.1 h4)) (And.intro rfl (And.intro rfl trivial)) (fun v9 σ9 h9 => ?_)
          rw [s_X9_readWay, if_pos h1, if_pos h2, if_pos h3, if_neg h4]; exact h9
        · refine zCl.use (c_X9_isWord 9 (u_X9_readWay_1 x1 N σ)) (Nat.le_of_ble_eq_true rfl) ?_
          rintro _ σ8 ⟨rfl, h8⟩
          subst σ8
          refine And.intro (fun (h5 : ¬ (f_X9_isWord 9 (u_X9_readWay_1 x1 N σ)) = 0) => ?_) (fun (h5 : (f_X9_isWord 9 (u_X9_readWay_1 x1 N σ)) = 0) => ?_)
          · refine zWp.use ((w_X9_readWay N N).1 x1 (u_X9_readWay_1 x1 N σ) (((((hp.1 h1).1 h2).1 h3).2.2 h4).1 h5)) (And.intro rfl (And.intro rfl trivial)) (fun v9 σ9 h9 => ?_)
            rw [s_X9_readWay, if_pos h1, if_pos h2, if_pos h3, if_pos h4, if_neg h5]; exact h9
          · refine zCl.use (c_X9_fail 1 (u_X9_readWay_1 x1 N σ)) (Nat.le_of_ble_eq_true rfl) ?_
            rintro _ σ8 ⟨rfl, h8⟩
            subst σ8
            refine zWp.use ((w_X9_readWay N N).1 x1 (u_X9_readWay_2 x1 N σ) (((((hp.1 h1).1 h2).1 h3).2.2 h4).2 h5)) (And.intro rfl (And.intro rfl trivial)) (fun v9 σ9 h9 => ?_)
            rw [s_X9_readWay, if_pos h1, if_pos h2, if_pos h3, if_pos h4, if_pos h5]; exact h9
      · refine And.intro (((hp.1 h1).1 h2).2 h3).1 ?_
        refine And.intro (((hp.1 h1).1 h2).2 h3).1 ?_
        refine And.intro (fun (h6 : ¬ ((u_X9_readWay_3 x1 N σ).1 471 (x1).toNatClampNeg) = 3) => ?_) (fun (h6 : ((u_X9_readWay_3 x1 N σ).1 471 (x1).toNatClampNeg) = 3) => ?_)
        · refine zWp.use ((w_X9_readWay N N).1 x1 (u_X9_readWay_3 x1 N σ) ((((hp.1 h1).1 h2).2 h3).2.1 h6)) (And.intro rfl (And.intro rfl trivial)) (fun v9 σ9 h9 => ?_)
          rw [s_X9_readWay, if_pos h1, if_pos h2, if_neg h3, if_neg h6]; exact h9
        · refine zCl.use (c_X9_isWord 9 (u_X9_readWay_3 x1 N σ)) (Nat.le_of_ble_eq_true rfl) ?_
          rintro _ σ8 ⟨rfl, h8⟩
          subst σ8
          refine And.intro (fun (h7 : ¬ (f_X9_isWord 9 (u_X9_readWay_3 x1 N σ)) = 0) => ?_) (fun (h7 : (f_X9_isWord 9 (u_X9_readWay_3 x1 N σ)) = 0) => ?_)
          · refine zWp.use ((w_X9_readWay N N).1 x1 (u_X9_readWay_3 x1 N σ) (((((hp.1 h1).1 h2).2 h3).2.2 h6).1 h7)) (And.intro rfl (And.intro rfl trivial)) (fun v9 σ9 h9 => ?_)
            rw [s_X9_readWay, if_pos h1, if_pos h2, if_neg h3, if_pos h6, if_neg h7]; exact h9
          · refine zCl.use (c_X9_fail 1 (u_X9_readWay_3 x1 N σ)) (Nat.le_of_ble_eq_true rfl) ?_
            rintro _ σ8 ⟨rfl, h8⟩
            subst σ8
            refine zWp.use ((w_X9_readWay N N).1 x1 (u_X9_readWay_4 x1 N σ) (((((hp.1 h1).1 h2).2 h3).2.2 h6).2 h7)) (And.intro rfl (And.intro rfl trivial)) (fun v9 σ9 h9 => ?_)
            rw [s_X9_readWay, if_pos h1, if_pos h2, if_neg h3, if_pos h6, if_pos h7]; exact h9
    · refine And.intro ((hp.1 h1).2 h2).1 ?_
      refine And.intro ((hp.1 h1).2 h2).1 ?_
      refine And.intro (fun (h8 : ¬ ((u_X9_readWay_5 x1 N σ).1 471 (x1).toNatClampNeg) = 3) => ?_) (fun (h8 : ((u_X9_readWay_5 x1 N σ).1 471 (x1).toNatClampNeg) = 3) => ?_)
      · refine zWp.use ((w_X9_readWay N N).1 x1 (u_X9_readWay_5 x1 N σ) (((hp.1 h1).2 h2).2.1 h8)) (And.intro rfl (And.intro rfl trivial)) (fun v9 σ9 h9 => ?_)
        rw [s_X9_readWay, if_pos h1, if_neg h2, if_neg h8]; exact h9
      · refine zCl.use (c_X9_isWord 9 (u_X9_readWay_5 x1 N σ)) (Nat.le_of_ble_eq_true rfl) ?_
        rintro _ σ8 ⟨rfl, h8⟩
        subst σ8
        refine And.intro (fun (h9 : ¬ (f_X9_isWord 9 (u_X9_readWay_5 x1 N σ)) = 0) => ?_) (fun (h9 : (f_X9_isWord 9 (u_X9_readWay_5 x1 N σ)) = 0) => ?_)
        · refine zWp.use ((w_X9_readWay N N).1 x1 (u_X9_readWay_5 x1 N σ) ((((hp.1 h1).2 h2).2.2 h8).1 h9)) (And.intro rfl (And.intro rfl trivial)) (fun v9 σ9 h9 => ?_)
          rw [s_X9_readWay, if_pos h1, if_neg h2, if_pos h8, if_neg h9]; exact h9
        · refine zCl.use (c_X9_fail 1 (u_X9_readWay_5 x1 N σ)) (Nat.le_of_ble_eq_true rfl) ?_
          rintro _ σ8 ⟨rfl, h8⟩
          subst σ8
          refine zWp.use ((w_X9_readWay N N).1 x1 (u_X9_readWay_6 x1 N σ) ((((hp.1 h1).2 h2).2.2 h8).2 h9)) (And.intro rfl (And.intro rfl trivial)) (fun v9 σ9 h9 => ?_)
          rw [s_X9_readWay, if_pos h1, if_neg h2, if_pos h8, if_pos h9]; exact h9
  · refine And.intro (hp.2 h1).1 ?_
    refine And.intro (hp.2 h1).1 ?_
    refine And.intro (fun (h10 : ¬ ((u_X9_readWay_7 x1 N σ).1 471 (x1).toNatClampNeg) = 3) => ?_) (fun (h10 : ((u_X9_readWay_7 x1 N σ).1 471 (x1).toNatClampNeg) = 3) => ?_)
    · refine zWp.use ((w_X9_readWay N N).1 x1 (u_X9_readWay_7 x1 N σ) ((hp.2 h1).2.1 h10)) (And.intro rfl (And.intro rfl trivial)) (fun v9 σ9 h9 => ?_)
      rw [s_X9_readWay, if_neg h1, if_neg h10]; exact h9
    · refine zCl.use (c_X9_isWord 9 (u_X9_readWay_7 x1 N σ)) (Nat.le_of_ble_eq_true rfl) ?_
      rintro _ σ8 ⟨rfl, h8⟩
      subst σ8
      refine And.intro (fun (h11 : ¬ (f_X9_isWord 9 (u_X9_readWay_7 x1 N σ)) = 0) => ?_) (fun (h11 : (f_X9_isWord 9 (u_X9_readWay_7 x1 N σ)) = 0) => ?_)
      · refine zWp.use ((w_X9_readWay N N).1 x1 (u_X9_readWay_7 x1 N σ) (((hp.2 h1).2.2 h10).1 h11)) (And.intro rfl (And.intro rfl trivial)) (fun v9 σ9 h9 => ?_)
        rw [s_X9_readWay, if_neg h1, if_pos h10, if_neg h11]; exact h9
      · refine zCl.use (c_X9_fail 1 (u_X9_readWay_7 x1 N σ)) (Nat.le_of_ble_eq_true rfl) ?_
        rintro _ σ8 ⟨rfl, h8⟩
        subst σ8
        refine zWp.use ((w_X9_readWay N N).1 x1 (u_X9_readWay_8 x1 N σ) (((hp.2 h1).2.2 h10).2 h11)) (And.intro rfl (And.intro rfl trivial)) (fun v9 σ9 h9 => ?_)
        rw [s_X9_readWay, if_neg h1, if_pos h10, if_pos h11]; exact h9
def u_X0_reach_h0_1 (o : Nat) (q1 : Nat) (N : Nat) (v2 : Int32) (σ : zS) : zS := zuI σ o 1 ((σ.1 o 1) + 1)
def u_X0_reach_h0_2 (o : Nat) (q1 : Nat) (N : Nat) (v2 : Int32) (σ : zS) : zS := s_X0_compute o (f_X8_at 400 (q1 + 5) (σ.1 o 1) σ) (f_X8_at 400 (q1 + 6) (σ.1 o 1) σ) (u_X0_reach_h0_1 o q1 N v2 σ)
def l_X0_reach (o : Nat) (q1 : Nat) (N : Nat) : Nat → Int32 → zS → Int32 × zS
  | 0, _, σ => (0, σ)
  | n + 1, v2, σ => if 400 ≤ v2 then (13, σ) else (if (f_X8_at 400 (q1 + 5) (σ.1 o 1) σ) = 12 then (f_X8_at 400 (q1 + 5) (σ.1 o 1) σ, σ) else (if (f_X8_at 400 (q1 + 5) (σ.1 o 1) σ) = 13 then (f_X8_at 400 (q1 + 5) (σ.1 o 1) σ, σ) else (l_X0_reach o q1 N n (v2 + 1) (u_X0_reach_h0_2 o q1 N v2 σ))))
def q_X0_reach (o : Nat) (q1 : Nat) (N : Nat) : Nat → Int32 → zS → Prop
  | 0, _, _ => False
  | n + 1, v2, σ => ¬ 400 ≤ v2 → (p_X8_at 400 (q1 + 5) (σ.1 o 1) σ ∧ (¬ (f_X8_at 400 (q1 + 5) (σ.1 o 1) σ) = 12 → (¬ (f_X8_at 400 (q1 + 5) (σ.1 o 1) σ) = 13 → (p_X8_at 400 (q1 + 6) (σ.1 o 1) σ ∧ (p_X0_compute o (f_X8_at 400 (q1 + 5) (σ.1 o 1) σ) (f_X8_at 400 (q1 + 6) (σ.1 o 1) σ) (u_X0_reach_h0_1 o q1 N v2 σ) ∧ q_X0_reach o q1 N n (v2 + 1) (u_X0_reach_h0_2 o q1 N v2 σ))))))
set_option maxRecDepth 100000 in
set_option maxHeartbeats 1000000 in
theorem w_X0_reach {nx : Nat} (o : Nat) (q1 : Nat) (N : Nat) : ∀ n : Nat, (∀ (v2 : Int32) (σ : zS), q_X0_reach o q1 N n v2 σ → zWp 4 zall nx 6 (fun v σ1 => v = some (.inl ((l_X0_reach o q1 N n v2 σ).1)) ∧ σ1 = (l_X0_reach o q1 N n v2 σ).2) zall nx 36 [some (.inr (0, 9, o)), some (.inr (2, 16, q1)), some (.inl v2), none, none] [] σ) := by
  intro n
  induction n with
  | zero => exact fun _ _ h => h.elim
  | succ n ih =>
    intro v2 σ hp
    rw [q_X0_reach] at hp
    refine zvc_sound (cd := kX0_reach) (cs := [36]) rfl okX0_reach 1000 _ _ 36 (zseek kX0_reach 36) _ _ _ zseek_sub ?_
    refine And.intro (fun (h1 : 400 ≤ v2) => ?_) (fun (h1 : ¬ 400 ≤ v2) => ?_)
    · exact And.intro rfl (And.intro rfl ⟨by rw [l_X0_reach, if_pos h1] <;> rfl, by rw [l_X0_reach, if_pos h1] <;> rfl⟩)
    · refine zCl.use (c_X8_at 400 (q1 + 5) (σ.1 o 1) σ (hp h1).1) (Nat.le_of_ble_eq_true rfl) ?_
      rintro _ σ8 ⟨rfl, h8⟩
      subst σ8
      refine And.intro (fun (h2 : (f_X8_at 400 (q1 + 5) (σ.1 o 1) σ) = 12) => ?_) (fun (h2 : ¬ (f_X8_at 400 (q1 + 5) (σ.1 o 1) σ) = 12) => ?_)
      · exact And.intro rfl (And.intro rfl ⟨by rw [l_X0_reach, if_neg h1, if_pos h2] <;> rfl, by rw [l_X0_reach, if_neg h1, if_pos h2] <;> rfl⟩)
      · refine And.intro (fun (h3 : ¬ (f_X8_at 400 (q1 + 5) (σ.1 o 1) σ) = 13) => ?_) (fun (h3 : (f_X8_at 400 (q1 + 5) (σ.1 o 1) σ) = 13) => ?_)
        · refine zCl.use (c_X8_at 400 (q1 + 6) (σ.1 o 1) σ (((hp h1).2 h2) h3).1) (Nat.le_of_ble_eq_true rfl) ?_
          rintro _ σ8 ⟨rfl, h8⟩
          subst σ8
          refine zCl.use (c_X0_compute o (f_X8_at 400 (q1 + 5) (σ.1 o 1) σ) (f_X8_at 400 (q1 + 6) (σ.1 o 1) σ) (u_X0_reach_h0_1 o q1 N v2 σ) (((hp h1).2 h2) h3).2.1) (Nat.le_of_ble_eq_true rfl) ?_
          rintro _ σ8 ⟨rfl, h8⟩
          subst σ8
          refine zWp.use (ih (v2 + 1) (u_X0_reach_h0_2 o q1 N v2 σ) (((hp h1).2 h2) h3).2.2) (And.intro rfl (And.intro rfl (And.intro rfl trivial))) (fun v9 σ9 h9 => ?_)
          rw [l_X0_reach, if_neg h1, if_neg h2, if_neg h3]; exact h9
        · exact And.intro rfl (And.intro rfl ⟨by rw [l_X0_reach, if_neg h1, if_neg h2, if_pos h3] <;> rfl, by rw [l_X0_reach, if_neg h1, if_neg h2, if_pos h3] <;> rfl⟩)
def r_X0_reach (o : Nat) (q1 : Nat) (N : Nat) (σ : zS) : Int32 × zS := if (zlay (σ.2 o 4 - 1)).1 = 20 then (if (Int32.ofNat ((zlay (σ.2 o 4 - 1)).2)) ≤ 0 then (l_X0_reach o q1 N N 0 σ) else (if (zlay (σ.2 o 4 - 1)).1 = 20 then (if (f_X8_at ((zlay (σ.2 o 4 - 1)).2) (σ.2 o 4 - 1) (σ.1 o 5) σ) ≤ (σ.1 o 0) then (13, σ) else (12, σ)) else (if (f_X8_at26 ((zlay (σ.2 o 4 - 1)).2) (σ.2 o 4 - 1) (σ.1 o 5) σ) ≤ (σ.1 o 0) then (13, σ) else (12, σ)))) else (if (Int32.ofNat ((zlay (σ.2 o 4 - 1)).2)) ≤ 0 then (l_X0_reach o q1 N N 0 σ) else (if (zlay (σ.2 o 4 - 1)).1 = 20 then (if (f_X8_at ((zlay (σ.2 o 4 - 1)).2) (σ.2 o 4 - 1) (σ.1 o 5) σ) ≤ (σ.1 o 0) then (13, σ) else (12, σ)) else (if (f_X8_at26 ((zlay (σ.2 o 4 - 1)).2) (σ.2 o 4 - 1) (σ.1 o 5) σ) ≤ (σ.1 o 0) then (13, σ) else (12, σ))))
def p_X0_reach (o : Nat) (q1 : Nat) (N : Nat) (σ : zS) : Prop := (σ.2 o 4 ≠ 0) ∧ (((zlay (σ.2 o 4 - 1)).1 = 20 → (((Int32.ofNat ((zlay (σ.2 o 4 - 1)).2)) ≤ 0 → q_X0_reach o q1 N N 0 σ) ∧ (¬ (Int32.ofNat ((zlay (σ.2 o 4 - 1)).2)) ≤ 0 → ((σ.2 o 4 ≠ 0) ∧ (((zlay (σ.2 o 4 - 1)).1 = 20 → p_X8_at ((zlay (σ.2 o 4 - 1)).2) (σ.2 o 4 - 1) (σ.1 o 5) σ) ∧ (¬ (zlay (σ.2 o 4 - 1)).1 = 20 → ((zlay (σ.2 o 4 - 1)).1 = 26 ∧ p_X8_at26 ((zlay (σ.2 o 4 - 1)).2) (σ.2 o 4 - 1) (σ.1 o 5) σ))))))) ∧ (¬ (zlay (σ.2 o 4 - 1)).1 = 20 → ((zlay (σ.2 o 4 - 1)).1 = 26 ∧ (((Int32.ofNat ((zlay (σ.2 o 4 - 1)).2)) ≤ 0 → q_X0_reach o q1 N N 0 σ) ∧ (¬ (Int32.ofNat ((zlay (σ.2 o 4 - 1)).2)) ≤ 0 → ((σ.2 o 4 ≠ 0) ∧ (((zlay (σ.2 o 4 - 1)).1 = 20 → p_X8_at ((zlay (σ.2 o 4 - 1)).2) (σ.2 o 4 - 1) (σ.1 o 5) σ) ∧ (¬ (zlay (σ.2 o 4 - 1)).1 = 20 → ((zlay (σ.2 o 4 - 1)).1 = 26 ∧ p_X8_at26 ((zlay (σ.2 o 4 - 1)).2) (σ.2 o 4 - 1) (σ.1 o 5) σ)))))))))
set_option maxRecDepth 100000 in
set_option maxHeartbeats 1000000 in
theorem c_X0_reach {nx : Nat} (o : Nat) (q1 : Nat) (N : Nat) (σ : zS) (hp : p_X0_reach o q1 N σ) : zCl 4 zall nx zall nx 6 [.inr (0, 9, o), .inr (2, 16, q1)] σ (fun v σ1 => v = some (.inl ((r_X0_reach o q1 N σ).1)) ∧ σ1 = (r_X0_reach o q1 N σ).2) := by
  refine zmeth (cd := kX0_reach) [36] 1000 (Nat.le_of_ble_eq_true rfl) rfl okX0_reach (Nat.le_refl _) (Nat.le_of_ble_eq_true rfl) ?_
  refine And.intro hp.1 (fun q901 (e1 : σ.2 o 4 = q901 + 1) => ?_)
  have g1 : q901 = (σ.2 o 4 - 1) := by omega
  subst g1
  by_cases h1 : (zlay (σ.2 o 4 - 1)).1 = 20
  · rw [h1]
    refine And.intro (fun (h2 : (Int32.ofNat ((zlay (σ.2 o 4 - 1)).2)) ≤ 0) => ?_) (fun (h2 : ¬ (Int32.ofNat ((zlay (σ.2 o 4 - 1)).2)) ≤ 0) => ?_)
    · refine zWp.use ((w_X0_reach o q1 N N) 0 σ ((hp.2.1 h1).1 h2)) (And.intro rfl (And.intro rfl (And.intro rfl trivial))) (fun v9 σ9 h9 => ?_)
      rw [r_X0_reach, if_pos h1, if_pos h2]; exact h9
    · refine And.intro ((hp.2.1 h1).2 h2).1 (fun q903 (e3 : σ.2 o 4 = q903 + 1) => ?_)
      have g3 : q903 = (σ.2 o 4 - 1) := by omega
      subst g3
      by_cases h3 : (zlay (σ.2 o 4 - 1)).1 = 20
      · rw [h3]
        refine zCl.use (c_X8_at ((zlay (σ.2 o 4 - 1)).2) (σ.2 o 4 - 1) (σ.1 o 5) σ (((hp.2.1 h1).2 h2).2.1 h3)) (Nat.le_of_ble_eq_true rfl) ?_
        rintro _ σ8 ⟨rfl, h8⟩
        subst σ8
        refine And.intro (fun (h4 : (f_X8_at ((zlay (σ.2 o 4 - 1)).2) (σ.2 o 4 - 1) (σ.1 o 5) σ) ≤ (σ.1 o 0)) => ?_) (fun (h4 : ¬ (f_X8_at ((zlay (σ.2 o 4 - 1)).2) (σ.2 o 4 - 1) (σ.1 o 5) σ) ≤ (σ.1 o 0)) => ?_)
        · exact And.intro rfl (And.intro rfl ⟨by rw [r_X0_reach, if_pos h1, if_neg h2, if_pos h3, if_pos h4] <;> rfl, by rw [r_X0_reach, if_pos h1, if_neg h2, if_pos h3, if_pos h4] <;> rfl⟩)
        · exact And.intro rfl (And.intro rfl ⟨by rw [r_X0_reach, if_pos h1, if_neg h2, if_pos h3, if_neg h4] <;> rfl, by rw [r_X0_reach, if_pos h1, if_neg h2, if_pos h3, if_neg h4] <;> rfl⟩)
      · rw [(((hp.2.1 h1).2 h2).2.2 h3).1]
        refine zCl.use (c_X8_at26 ((zlay (σ.2 o 4 - 1)).2) (σ.2 o 4 - 1) (σ.1 o 5) σ (((hp.2.1 h1).2 h2).2.2 h3).2) (Nat.le_of_ble_eq_true rfl) ?_
        rintro _ σ8 ⟨rfl, h8⟩
        subst σ8
        refine And.intro (fun (h5 : (f_X8_at26 ((zlay (σ.2 o 4 - 1)).2) (σ.2 o 4 - 1) (σ.1 o 5) σ) ≤ (σ.1 o 0)) => ?_) (fun (h5 : ¬ (f_X8_at26 ((zlay (σ.2 o 4 - 1)).2) (σ.2 o 4 - 1) (σ.1 o 5) σ) ≤ (σ.1 o 0)) => ?_)
        · exact And.intro rfl (And.intro rfl ⟨by rw [r_X0_reach, if_pos h1, if_neg h2, if_neg h3, if_pos h5] <;> rfl, by rw [r_X0_reach, if_pos h1, if_neg h2, if_neg h3, if_pos h5] <;> rfl⟩)
        · exact And.intro rfl (And.intro rfl ⟨by rw [r_X0_reach, if_pos h1, if_neg h2, if_neg h3, if_neg h5] <;> rfl, by rw [r_X0_reach, if_pos h1, if_neg h2, if_neg h3, if_neg h5] <;> rfl⟩)
  · rw [(hp.2.2 h1).1]
    refine And.intro (fun (h6 : (Int32.ofNat ((zlay (σ.2 o 4 - 1)).2)) ≤ 0) => ?_) (fun (h6 : ¬ (Int32.ofNat ((zlay (σ.2 o 4 - 1)).2)) ≤ 0) => ?_)
    · refine zWp.use ((w_X0_reach o q1 N N) 0 σ ((hp.2.2 h1).2.1 h6)) (And.intro rfl (And.intro rfl (And.intro rfl trivial))) (fun v9 σ9 h9 => ?_)
      rw [r_X0_reach, if_neg h1, if_pos h6]; exact h9
    · refine And.intro ((hp.2.2 h1).2.2 h6).1 (fun q907 (e7 : σ.2 o 4 = q907 + 1) => ?_)
      have g7 : q907 = (σ.2 o 4 - 1) := by omega
      subst g7
      by_cases h7 : (zlay (σ.2 o 4 - 1)).1 = 20
      · rw [h7]
        refine zCl.use (c_X8_at ((zlay (σ.2 o 4 - 1)).2) (σ.2 o 4 - 1) (σ.1 o 5) σ (((hp.2.2 h1).2.2 h6).2.1 h7)) (Nat.le_of_ble_eq_true rfl) ?_
        rintro _ σ8 ⟨rfl, h8⟩
        subst σ8
        refine And.intro (fun (h8 : (f_X8_at ((zlay (σ.2 o 4 - 1)).2) (σ.2 o 4 - 1) (σ.1 o 5) σ) ≤ (σ.1 o 0)) => ?_) (fun (h8 : ¬ (f_X8_at ((zlay (σ.2 o 4 - 1)).2) (σ.2 o 4 - 1) (σ.1 o 5) σ) ≤ (σ.1 o 0)) => ?_)
        · exact And.intro rfl (And.intro rfl ⟨by rw [r_X0_reach, if_neg h1, if_neg h6, if_pos h7, if_pos h8] <;> rfl, by rw [r_X0_reach, if_neg h1, if_neg h6, if_pos h7, if_pos h8] <;> rfl⟩)
        · exact And.intro rfl (And.intro rfl ⟨by rw [r_X0_reach, if_neg h1, if_neg h6, if_pos h7, if_neg h8] <;> rfl, by rw [r_X0_reach, if_neg h1, if_neg h6, if_pos h7, if_neg h8] <;> rfl⟩)
      · rw [(((hp.2.2 h1).2.2 h6).2.2 h7).1]
        refine zCl.use (c_X8_at26 ((zlay (σ.2 o 4 - 1)).2) (σ.2 o 4 - 1) (σ.1 o 5) σ (((hp.2.2 h1).2.2 h6).2.2 h7).2) (Nat.le_of_ble_eq_true rfl) ?_
        rintro _ σ8 ⟨rfl, h8⟩
        subst σ8
        refine And.intro (fun (h9 : (f_X8_at26 ((zlay (σ.2 o 4 - 1)).2) (σ.2 o 4 - 1) (σ.1 o 5) σ) ≤ (σ.1 o 0)) => ?_) (fun (h9 : ¬ (f_X8_at26 ((zlay (σ.2 o 4 - 1)).2) (σ.2 o 4 - 1) (σ.1 o 5) σ) ≤ (σ.1 o 0)) => ?_)
        · exact And.intro rfl (And.intro rfl ⟨by rw [r_X0_reach, if_neg h1, if_neg h6, if_neg h7, if_pos h9] <;> rfl, by rw [r_X0_reach, if_neg h1, if_neg h6, if_neg h7, if_pos h9] <;> rfl⟩)
        · exact And.intro rfl (And.intro rfl ⟨by rw [r_X0_reach, if_neg h1, if_neg h6, if_neg h7, if_neg h9] <;> rfl, by rw [r_X0_reach, if_neg h1, if_neg h6, if_neg h7, if_neg h9] <;> rfl⟩)
