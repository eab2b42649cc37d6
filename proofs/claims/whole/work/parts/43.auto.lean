/-! printed by wip/whole/dec2.py -/
def u_X8_feedFour_h0_1 (N : Nat) (v1 : Int32) (v2 : Int32) (σ : zS) : zS := s_X8_put 1000 1 (σ.1 0 1) (((Int32.toUInt32 v1 >>> (Int32.toUInt32 v2 &&& Int32.toUInt32 31)).toInt32) &&& 255) σ
def u_X8_feedFour_h0_2 (N : Nat) (v1 : Int32) (v2 : Int32) (σ : zS) : zS := zuI (u_X8_feedFour_h0_1 N v1 v2 σ) 0 1 (((u_X8_feedFour_h0_1 N v1 v2 σ).1 0 1) + 1)
def l_X8_feedFour (N : Nat) : Nat → Int32 → Int32 → zS → zS
  | 0, _, _, σ => σ
  | n + 1, v1, v2, σ => if v2 < 0 then σ else (l_X8_feedFour N n v1 (v2 + (-8)) (u_X8_feedFour_h0_2 N v1 v2 σ))
def q_X8_feedFour (N : Nat) : Nat → Int32 → Int32 → zS → Prop
  | 0, _, _, _ => False
  | n + 1, v1, v2, σ => ¬ v2 < 0 → (p_X8_put 1000 1 (σ.1 0 1) (((Int32.toUInt32 v1 >>> (Int32.toUInt32 v2 &&& Int32.toUInt32 31)).toInt32) &&& 255) σ ∧ q_X8_feedFour N n v1 (v2 + (-8)) (u_X8_feedFour_h0_2 N v1 v2 σ))
set_option maxRecDepth 100000 in
set_option maxHeartbeats 1000000 in
theorem w_X8_feedFour {nx : Nat} (N : Nat) : ∀ n : Nat, (∀ (v1 : Int32) (v2 : Int32) (σ : zS), q_X8_feedFour N n v1 v2 σ → zWp 2 zall nx 143 (fun v σ1 => v = none ∧ σ1 = l_X8_feedFour N n v1 v2 σ) zall nx 3 [some (.inr (8, 16, 0)), some (.inl v1), some (.inl v2)] [] σ) := by
  intro n
  induction n with
  | zero => exact fun _ _ _ h => h.elim
  | succ n ih =>
    intro v1 v2 σ hp
    rw [q_X8_feedFour] at hp
    refine zvc_sound (cd := kX8_feedFour) (cs := [3]) rfl okX8_feedFour 1000 _ _ 3 (zseek kX8_feedFour 3) _ _ _ zseek_sub ?_
    refine And.intro (fun (h1 : v2 < 0) => ?_) (fun (h1 : ¬ v2 < 0) => ?_)
    · exact And.intro rfl (And.intro rfl ⟨rfl, by rw [l_X8_feedFour, if_pos h1] <;> rfl⟩)
    · refine zCl.use (c_X8_put 1000 1 (σ.1 0 1) (((Int32.toUInt32 v1 >>> (Int32.toUInt32 v2 &&& Int32.toUInt32 31)).toInt32) &&& 255) σ (hp h1).1) (Nat.le_of_ble_eq_true rfl) ?_
      rintro _ σz ⟨rfl, hz⟩
      subst σz
      refine zWp.use (ih v1 (v2 + (-8)) (u_X8_feedFour_h0_2 N v1 v2 σ) (hp h1).2) (And.intro rfl (And.intro rfl (And.intro rfl trivial))) (fun vy σy hy => ?_)
      rw [l_X8_feedFour, if_neg h1]; exact hy
def s_X8_feedFour (x1 : Int32) (N : Nat) (σ : zS) : zS := l_X8_feedFour N N x1 24 σ
def p_X8_feedFour (x1 : Int32) (N : Nat) (σ : zS) : Prop := q_X8_feedFour N N x1 24 σ
set_option maxRecDepth 100000 in
set_option maxHeartbeats 1000000 in
theorem c_X8_feedFour {nx : Nat} (x1 : Int32) (N : Nat) (σ : zS) (hp : p_X8_feedFour x1 N σ) : zCl 2 zall nx zall nx 143 [.inr (8, 16, 0), .inl x1] σ (fun v σ1 => v = none ∧ σ1 = s_X8_feedFour x1 N σ) := by
  refine zmeth (cd := kX8_feedFour) [3] 1000 (Nat.le_of_ble_eq_true rfl) rfl okX8_feedFour (Nat.le_refl _) (Nat.le_of_ble_eq_true rfl) ?_
  refine zWp.use ((w_X8_feedFour N N) x1 24 σ hp) (And.intro rfl (And.intro rfl (And.intro rfl trivial))) (fun vy σy hy => ?_)
  rw [s_X8_feedFour]; exact hy
def f_X8_isTask (x1 : Int32) (σ : zS) : Int32 := if x1 < 0 then 0 else (if (σ.1 (σ.2 0 5 - 1) 7) ≤ x1 then 0 else 1)
def p_X8_isTask (x1 : Int32) (σ : zS) : Prop := ¬ x1 < 0 → ((σ.2 0 5 ≠ 0 ∧ zlay (σ.2 0 5 - 1) = (2, 16)))
set_option maxRecDepth 100000 in
set_option maxHeartbeats 1000000 in
theorem c_X8_isTask {cp : Nat → Bool} {nx : Nat} (x1 : Int32) (σ : zS) (hp : p_X8_isTask x1 σ) : zCl 1 cp nx cp nx 144 [.inr (8, 16, 0), .inl x1] σ (fun v σ1 => v = some (.inl (f_X8_isTask x1 σ)) ∧ σ1 = σ) := by
  refine zmeth (cd := kX8_isTask) [] 1000 (Nat.le_of_ble_eq_true rfl) rfl okX8_isTask (Nat.le_refl _) (Nat.le_of_ble_eq_true rfl) ?_
  refine And.intro (fun (h1 : x1 < 0) => ?_) (fun (h1 : ¬ x1 < 0) => ?_)
  · exact And.intro rfl (And.intro rfl (And.intro (Or.inl rfl) ⟨by rw [f_X8_isTask, if_pos h1] <;> rfl, rfl⟩))
  · refine And.intro (hp h1).1 (fun q902 (e2 : σ.2 0 5 = q902 + 1) => ?_)
    have g2 : q902 = (σ.2 0 5 - 1) := by omega
    subst g2
    rw [(hp h1).2]
    refine And.intro (fun (h3 : (σ.1 (σ.2 0 5 - 1) 7) ≤ x1) => ?_) (fun (h3 : ¬ (σ.1 (σ.2 0 5 - 1) 7) ≤ x1) => ?_)
    · exact And.intro rfl (And.intro rfl (And.intro (Or.inl rfl) ⟨by rw [f_X8_isTask, if_neg h1, if_pos h3] <;> rfl, rfl⟩))
    · exact And.intro rfl (And.intro rfl (And.intro (Or.inr rfl) ⟨by rw [f_X8_isTask, if_neg h1, if_neg h3] <;> rfl, rfl⟩))
theorem b_X8_isTask {x1 : Int32} {σ : zS} : f_X8_isTask x1 σ = 0 ∨ f_X8_isTask x1 σ = 1 := by
  unfold f_X8_isTask
  (repeat' split) <;> first | exact Or.inl rfl | exact Or.inr rfl
def f_X8_trapCost (x1 : Int32) (σ : zS) : Int32 := (σ.1 (f_X1_now σ) 4) + (x1 * (σ.1 (f_X1_now σ) 5))
def p_X8_trapCost (x1 : Int32) (σ : zS) : Prop := p_X1_now σ
set_option maxRecDepth 100000 in
set_option maxHeartbeats 1000000 in
theorem c_X8_trapCost {nx : Nat} (x1 : Int32) (σ : zS) (hp : p_X8_trapCost x1 σ) : zCl 2 zall nx zall nx 150 [.inr (8, 16, 0), .inl x1] σ (fun v σ1 => v = some (.inl (f_X8_trapCost x1 σ)) ∧ σ1 = σ) := by
  refine zmeth (cd := kX8_trapCost) [] 1000 (Nat.le_of_ble_eq_true rfl) rfl okX8_trapCost (Nat.le_refl _) (Nat.le_of_ble_eq_true rfl) ?_
  refine zCl.use (c_X1_now σ hp) (Nat.le_of_ble_eq_true rfl) ?_
  rintro _ σz ⟨rfl, hz⟩
  subst σz
  exact And.intro rfl (And.intro rfl ⟨by rw [f_X8_trapCost] <;> rfl, rfl⟩)
def f_X9_isIn (x1 : Int32) (x2 : Int32) (x3 : Int32) : Int32 := if x1 < x2 then 0 else (if x3 < x1 then 0 else 1)
set_option maxRecDepth 100000 in
set_option maxHeartbeats 1000000 in
theorem c_X9_isIn {cp : Nat → Bool} {nx : Nat} (x1 : Int32) (x2 : Int32) (x3 : Int32) (σ : zS) : zCl 1 cp nx cp nx 152 [.inl x1, .inl x2, .inl x3] σ (fun v σ1 => v = some (.inl (f_X9_isIn x1 x2 x3)) ∧ σ1 = σ) := by
  refine zmeth (cd := kX9_isIn) [] 1000 (Nat.le_of_ble_eq_true rfl) rfl okX9_isIn (Nat.le_refl _) (Nat.le_of_ble_eq_true rfl) ?_
  refine And.intro (fun (h1 : x1 < x2) => ?_) (fun (h1 : ¬ x1 < x2) => ?_)
  · exact And.intro rfl (And.intro rfl (And.intro (Or.inl rfl) ⟨by rw [f_X9_isIn, if_pos h1] <;> rfl, rfl⟩))
  · refine And.intro (fun (h2 : x3 < x1) => ?_) (fun (h2 : ¬ x3 < x1) => ?_)
    · exact And.intro rfl (And.intro rfl (And.intro (Or.inl rfl) ⟨by rw [f_X9_isIn, if_neg h1, if_pos h2] <;> rfl, rfl⟩))
    · exact And.intro rfl (And.intro rfl (And.intro (Or.inr rfl) ⟨by rw [f_X9_isIn, if_neg h1, if_neg h2] <;> rfl, rfl⟩))
theorem b_X9_isIn {x1 : Int32} {x2 : Int32} {x3 : Int32} : f_X9_isIn x1 x2 x3 = 0 ∨ f_X9_isIn x1 x2 x3 = 1 := by
  unfold f_X9_isIn
  (repeat' split) <;> first | exact Or.inl rfl | exact Or.inr rfl
def f_X9_less (x1 : Int32) (x2 : Int32) : Int32 := if x2 ≤ x1 then x2 else x1
set_option maxRecDepth 100000 in
set_option maxHeartbeats 1000000 in
theorem c_X9_less {cp : Nat → Bool} {nx : Nat} (x1 : Int32) (x2 : Int32) (σ : zS) : zCl 1 cp nx cp nx 153 [.inl x1, .inl x2] σ (fun v σ1 => v = some (.inl (f_X9_less x1 x2)) ∧ σ1 = σ) := by
  refine zmeth (cd := kX9_less) [] 1000 (Nat.le_of_ble_eq_true rfl) rfl okX9_less (Nat.le_refl _) (Nat.le_of_ble_eq_true rfl) ?_
  refine And.intro (fun (h1 : x2 ≤ x1) => ?_) (fun (h1 : ¬ x2 ≤ x1) => ?_)
  · exact And.intro rfl (And.intro rfl ⟨by rw [f_X9_less, if_pos h1] <;> rfl, rfl⟩)
  · exact And.intro rfl (And.intro rfl ⟨by rw [f_X9_less, if_neg h1] <;> rfl, rfl⟩)
def f_X9_more (x1 : Int32) (x2 : Int32) : Int32 := if x1 ≤ x2 then x2 else x1
set_option maxRecDepth 100000 in
set_option maxHeartbeats 1000000 in
theorem c_X9_more {cp : Nat → Bool} {nx : Nat} (x1 : Int32) (x2 : Int32) (σ : zS) : zCl 1 cp nx cp nx 154 [.inl x1, .inl x2] σ (fun v σ1 => v = some (.inl (f_X9_more x1 x2)) ∧ σ1 = σ) := by
  refine zmeth (cd := kX9_more) [] 1000 (Nat.le_of_ble_eq_true rfl) rfl okX9_more (Nat.le_refl _) (Nat.le_of_ble_eq_true rfl) ?_
  refine And.intro (fun (h1 : x1 ≤ x2) => ?_) (fun (h1 : ¬ x1 ≤ x2) => ?_)
  · exact And.intro rfl (And.intro rfl ⟨by rw [f_X9_more, if_pos h1] <;> rfl, rfl⟩)
  · exact And.intro rfl (And.intro rfl ⟨by rw [f_X9_more, if_neg h1] <;> rfl, rfl⟩)
def u_X9_clearBank_1 (x1 : Int32) (σ : zS) : zS := zuI σ 470 (x1).toNatClampNeg 6
def u_X9_clearBank_2 (x1 : Int32) (σ : zS) : zS := zuI (u_X9_clearBank_1 x1 σ) 471 (x1).toNatClampNeg 0
def u_X9_clearBank_3 (x1 : Int32) (σ : zS) : zS := zuI (u_X9_clearBank_2 x1 σ) 472 (x1).toNatClampNeg 0
def u_X9_clearBank_4 (x1 : Int32) (σ : zS) : zS := zuI (u_X9_clearBank_3 x1 σ) 473 (x1).toNatClampNeg 8
def u_X9_clearBank_5 (x1 : Int32) (σ : zS) : zS := zuI (u_X9_clearBank_4 x1 σ) 474 (x1).toNatClampNeg 10
def u_X9_clearBank_6 (x1 : Int32) (σ : zS) : zS := zuI (u_X9_clearBank_5 x1 σ) 475 (x1).toNatClampNeg 1
def u_X9_clearBank_7 (x1 : Int32) (σ : zS) : zS := zuI (u_X9_clearBank_6 x1 σ) 476 (x1).toNatClampNeg 0
def u_X9_clearBank_8 (x1 : Int32) (σ : zS) : zS := zuI (u_X9_clearBank_7 x1 σ) 477 (x1).toNatClampNeg 0
def u_X9_clearBank_9 (x1 : Int32) (σ : zS) : zS := zuI (u_X9_clearBank_8 x1 σ) 478 (x1).toNatClampNeg 0
def u_X9_clearBank_10 (x1 : Int32) (σ : zS) : zS := zuI (u_X9_clearBank_9 x1 σ) 479 (x1).toNatClampNeg 0
def s_X9_clearBank (x1 : Int32) (σ : zS) : zS := (u_X9_clearBank_10 x1 σ)
def p_X9_clearBank (x1 : Int32) (σ : zS) : Prop := vp_in x1 2
set_option maxRecDepth 100000 in
set_option maxHeartbeats 1000000 in
theorem c_X9_clearBank {nx : Nat} (x1 : Int32) (σ : zS) (hp : p_X9_clearBank x1 σ) : zCl 1 zall nx zall nx 155 [.inr (9, 57, 468), .inl x1] σ (fun v σ1 => v = none ∧ σ1 = s_X9_clearBank x1 σ) := by
  refine zmeth (cd := kX9_clearBank) [] 1000 (Nat.le_of_ble_eq_true rfl) rfl okX9_clearBank (Nat.le_refl _) (Nat.le_of_ble_eq_true rfl) ?_
  refine And.intro hp ?_
  refine And.intro hp ?_
  refine And.intro hp ?_
  refine And.intro hp ?_
  refine And.intro hp ?_
  refine And.intro hp ?_
  refine And.intro hp ?_
  refine And.intro hp ?_
  refine And.intro hp ?_
  refine And.intro hp ?_
  exact And.intro rfl (And.intro rfl ⟨rfl, by rw [s_X9_clearBank] <;> rfl⟩)
def u_X9_feed_h0_1 (N : Nat) (v1 : Int32) (v2 : Int32) (v3 : Int32) (v4 : Int32) (v5 : Int32) (v6 : Int32) (σ : zS) : zS := zuI σ 468 18 ((σ.1 468 18) + 20)
def u_X9_feed_h0_2 (N : Nat) (v1 : Int32) (v2 : Int32) (v3 : Int32) (v4 : Int32) (v5 : Int32) (v6 : Int32) (σ : zS) : zS := zuI σ 485 ((σ.1 468 18) + v6).toNatClampNeg (vp_nar .byte ((v5 >>> ((24 - (8 * (v6 &&& 3))) &&& 31)).toInt8.toInt32))
def u_X9_feed_h0_3 (N : Nat) (v1 : Int32) (v2 : Int32) (v3 : Int32) (v4 : Int32) (v5 : Int32) (v6 : Int32) (σ : zS) : zS := zuI σ 485 ((σ.1 468 18) + v6).toNatClampNeg (vp_nar .byte ((v4 >>> ((24 - (8 * (v6 &&& 3))) &&& 31)).toInt8.toInt32))
def u_X9_feed_h0_4 (N : Nat) (v1 : Int32) (v2 : Int32) (v3 : Int32) (v4 : Int32) (v5 : Int32) (v6 : Int32) (σ : zS) : zS := zuI σ 485 ((σ.1 468 18) + v6).toNatClampNeg (vp_nar .byte ((v3 >>> ((24 - (8 * (v6 &&& 3))) &&& 31)).toInt8.toInt32))
def u_X9_feed_h0_5 (N : Nat) (v1 : Int32) (v2 : Int32) (v3 : Int32) (v4 : Int32) (v5 : Int32) (v6 : Int32) (σ : zS) : zS := zuI σ 485 ((σ.1 468 18) + v6).toNatClampNeg (vp_nar .byte ((v2 >>> ((24 - (8 * (v6 &&& 3))) &&& 31)).toInt8.toInt32))
def u_X9_feed_h0_6 (N : Nat) (v1 : Int32) (v2 : Int32) (v3 : Int32) (v4 : Int32) (v5 : Int32) (v6 : Int32) (σ : zS) : zS := zuI σ 485 ((σ.1 468 18) + v6).toNatClampNeg (vp_nar .byte ((v1 >>> ((24 - (8 * (v6 &&& 3))) &&& 31)).toInt8.toInt32))
def l_X9_feed (N : Nat) : Nat → Int32 → Int32 → Int32 → Int32 → Int32 → Int32 → zS → Int32 × zS
  | 0, _, _, _, _, _, _, σ => (0, σ)
  | n + 1, v1, v2, v3, v4, v5, v6, σ => if 20 ≤ v6 then ((u_X9_feed_h0_1 N v1 v2 v3 v4 v5 v6 σ).1 468 18, (u_X9_feed_h0_1 N v1 v2 v3 v4 v5 v6 σ)) else (if 4 ≤ v6 then (if 8 ≤ v6 then (if 12 ≤ v6 then (if 16 ≤ v6 then (l_X9_feed N n v1 v2 v3 v4 v5 (v6 + 1) (u_X9_feed_h0_2 N v1 v2 v3 v4 v5 v6 σ)) else (l_X9_feed N n v1 v2 v3 v4 v5 (v6 + 1) (u_X9_feed_h0_3 N v1 v2 v3 v4 v5 v6 σ))) else (l_X9_feed N n v1 v2 v3 v4 v5 (v6 + 1) (u_X9_feed_h0_4 N v1 v2 v3 v4 v5 v6 σ))) else (l_X9_feed N n v1 v2 v3 v4 v5 (v6 + 1) (u_X9_feed_h0_5 N v1 v2 v3 v4 v5 v6 σ))) else (l_X9_feed N n v1 v2 v3 v4 v5 (v6 + 1) (u_X9_feed_h0_6 N v1 v2 v3 v4 v5 v6 σ)))
def q_X9_feed (N : Nat) : Nat → Int32 → Int32 → Int32 → Int32 → Int32 → Int32 → zS → Prop
  | 0, _, _, _, _, _, _, _ => False
  | n + 1, v1, v2, v3, v4, v5, v6, σ => ¬ 20 ≤ v6 → ((4 ≤ v6 → ((8 ≤ v6 → ((12 ≤ v6 → ((16 ≤ v6 → (vp_in ((σ.1 468 18) + v6) 1000 ∧ q_X9_feed N n v1 v2 v3 v4 v5 (v6 + 1) (u_X9_feed_h0_2 N v1 v2 v3 v4 v5 v6 σ))) ∧ (¬ 16 ≤ v6 → (vp_in ((σ.1 468 18) + v6) 1000 ∧ q_X9_feed N n v1 v2 v3 v4 v5 (v6 + 1) (u_X9_feed_h0_3 N v1 v2 v3 v4 v5 v6 σ))))) ∧ (¬ 12 ≤ v6 → (vp_in ((σ.1 468 18) + v6) 1000 ∧ q_X9_feed N n v1 v2 v3 v4 v5 (v6 + 1) (u_X9_feed_h0_4 N v1 v2 v3 v4 v5 v6 σ))))) ∧ (¬ 8 ≤ v6 → (vp_in ((σ.1 468 18) + v6) 1000 ∧ q_X9_feed N n v1 v2 v3 v4 v5 (v6 + 1) (u_X9_feed_h0_5 N v1 v2 v3 v4 v5 v6 σ))))) ∧ (¬ 4 ≤ v6 → (vp_in ((σ.1 468 18) + v6) 1000 ∧ q_X9_feed N n v1 v2 v3 v4 v5 (v6 + 1) (u_X9_feed_h0_6 N v1 v2 v3 v4 v5 v6 σ))))
set_option maxRecDepth 100000 in
set_option maxHeartbeats 1000000 in
theorem w_X9_feed {nx : Nat} (N : Nat) : ∀ n : Nat, (∀ (v1 : Int32) (v2 : Int32) (v3 : Int32) (v4 : Int32) (v5 : Int32) (v6 : Int32) (σ : zS), q_X9_feed N n v1 v2 v3 v4 v5 v6 σ → zWp 1 zall nx 156 (fun v σ1 => v = some (.inl ((l_X9_feed N n v1 v2 v3 v4 v5 v6 σ).1)) ∧ σ1 = (l_X9_feed N n v1 v2 v3 v4 v5 v6 σ).2) zall nx 18 [some (.inr (9, 57, 468)), some (.inl v1), some (.inl v2), some (.inl v3), some (.inl v4), some (.inl v5), some (.inl v6), none] [] σ) := by
  intro n
  induction n with
  | zero => exact fun _ _ _ _ _ _ _ h => h.elim
  | succ n ih =>
    intro v1 v2 v3 v4 v5 v6 σ hp
    rw [q_X9_feed] at hp
    refine zvc_sound (cd := kX9_feed) (cs := [18]) rfl okX9_feed 1000 _ _ 18 (zseek kX9_feed 18) _ _ _ zseek_sub ?_
    refine And.intro (fun (h1 : 20 ≤ v6) => ?_) (fun (h1 : ¬ 20 ≤ v6) => ?_)
    · exact And.intro rfl (And.intro rfl ⟨by rw [l_X9_feed, if_pos h1] <;> rfl, by rw [l_X9_feed, if_pos h1] <;> rfl⟩)
    · refine And.intro (fun (h2 : 4 ≤ v6) => ?_) (fun (h2 : ¬ 4 ≤ v6) => ?_)
      · refine And.intro (fun (h3 : 8 ≤ v6) => ?_) (fun (h3 : ¬ 8 ≤ v6) => ?_)
        · refine And.intro (fun (h4 : 12 ≤ v6) => ?_) (fun (h4 : ¬ 12 ≤ v6) => ?_)
          · refine And.intro (fun (h5 : 16 ≤ v6) => ?_) (fun (h5 : ¬ 16 ≤ v6) => ?_)
            · refine And.intro (((((hp h1).1 h2).1 h3).1 h4).1 h5).1 ?_
              refine zWp.use (ih v1 v2 v3 v4 v5 (v6 + 1) (u_X9_feed_h0_2 N v1 v2 v3 v4 v5 v6 σ) (((((hp h1).1 h2).1 h3).1 h4).1 h5).2) (And.intro rfl (And.intro rfl (And.intro rfl (And.intro rfl (And.intro rfl (And.intro rfl (And.intro rfl trivial))))))) (fun vy σy hy => ?_)
              rw [l_X9_feed, if_neg h1, if_pos h2, if_pos h3, if_pos h4, if_pos h5]; exact hy
            · refine And.intro (((((hp h1).1 h2).1 h3).1 h4).2 h5).1 ?_
              refine zWp.use (ih v1 v2 v3 v4 v5 (v6 + 1) (u_X9_feed_h0_3 N v1 v2 v3 v4 v5 v6 σ) (((((hp h1).1 h2).1 h3).1 h4).2 h5).2) (And.intro rfl (And.intro rfl (And.intro rfl (And.intro rfl (And.intro rfl (And.intro rfl (And.intro rfl trivial))))))) (fun vy σy hy => ?_)
              rw [l_X9_feed, if_neg h1, if_pos h2, if_pos h3, if_pos h4, if_neg h5]; exact hy
          · refine And.intro ((((hp h1).1 h2).1 h3).2 h4).1 ?_
            refine zWp.use (ih v1 v2 v3 v4 v5 (v6 + 1) (u_X9_feed_h0_4 N v1 v2 v3 v4 v5 v6 σ) ((((hp h1).1 h2).1 h3).2 h4).2) (And.intro rfl (And.intro rfl (And.intro rfl (And.intro rfl (And.intro rfl (And.intro rfl (And.intro rfl trivial))))))) (fun vy σy hy => ?_)
            rw [l_X9_feed, if_neg h1, if_pos h2, if_pos h3, if_neg h4]; exact hy
        · refine And.intro (((hp h1).1 h2).2 h3).1 ?_
          refine zWp.use (ih v1 v2 v3 v4 v5 (v6 + 1) (u_X9_feed_h0_5 N v1 v2 v3 v4 v5 v6 σ) (((hp h1).1 h2).2 h3).2) (And.intro rfl (And.intro rfl (And.intro rfl (And.intro rfl (And.intro rfl (And.intro rfl (And.intro rfl trivial))))))) (fun vy σy hy => ?_)
          rw [l_X9_feed, if_neg h1, if_pos h2, if_neg h3]; exact hy
      · refine And.intro ((hp h1).2 h2).1 ?_
        refine zWp.use (ih v1 v2 v3 v4 v5 (v6 + 1) (u_X9_feed_h0_6 N v1 v2 v3 v4 v5 v6 σ) ((hp h1).2 h2).2) (And.intro rfl (And.intro rfl (And.intro rfl (And.intro rfl (And.intro rfl (And.intro rfl (And.intro rfl trivial))))))) (fun vy σy hy => ?_)
        rw [l_X9_feed, if_neg h1, if_neg h2]; exact hy
def r_X9_feed (x1 : Int32) (x2 : Int32) (x3 : Int32) (x4 : Int32) (x5 : Int32) (N : Nat) (σ : zS) : Int32 × zS := if ((σ.1 468 18) + 20) ≤ 1000 then (l_X9_feed N N x1 x2 x3 x4 x5 0 σ) else (-1, σ)
def p_X9_feed (x1 : Int32) (x2 : Int32) (x3 : Int32) (x4 : Int32) (x5 : Int32) (N : Nat) (σ : zS) : Prop := ((σ.1 468 18) + 20) ≤ 1000 → q_X9_feed N N x1 x2 x3 x4 x5 0 σ
set_option maxRecDepth 100000 in
set_option maxHeartbeats 1000000 in
theorem c_X9_feed {nx : Nat} (x1 : Int32) (x2 : Int32) (x3 : Int32) (x4 : Int32) (x5 : Int32) (N : Nat) (σ : zS) (hp : p_X9_feed x1 x2 x3 x4 x5 N σ) : zCl 1 zall nx zall nx 156 [.inr (9, 57, 468), .inl x1, .inl x2, .inl x3, .inl x4, .inl x5] σ (fun v σ1 => v = some (.inl ((r_X9_feed x1 x2 x3 x4 x5 N σ).1)) ∧ σ1 = (r_X9_feed x1 x2 x3 x4 x5 N σ).2) := by
  refine zmeth (cd := kX9_feed) [18] 1000 (Nat.le_of_ble_eq_true rfl) rfl okX9_feed (Nat.le_refl _) (Nat.le_of_ble_eq_true rfl) ?_
  refine And.intro (fun (h1 : ((σ.1 468 18) + 20) ≤ 1000) => ?_) (fun (h1 : ¬ ((σ.1 468 18) + 20) ≤ 1000) => ?_)
  · refine zWp.use ((w_X9_feed N N) x1 x2 x3 x4 x5 0 σ (hp h1)) (And.intro rfl (And.intro rfl (And.intro rfl (And.intro rfl (And.intro rfl (And.intro rfl (And.intro rfl trivial))))))) (fun vy σy hy => ?_)
    rw [r_X9_feed, if_pos h1]; exact hy
  · exact And.intro rfl (And.intro rfl ⟨by rw [r_X9_feed, if_neg h1] <;> rfl, by rw [r_X9_feed, if_neg h1] <;> rfl⟩)
def u_X9_end_1 (x1 : Int32) (σ : zS) : zS := zuI σ 468 18 x1
def r_X9_end (x1 : Int32) (σ : zS) : Int32 × zS := if x1 < 0 then (-1, σ) else (if x1 ≤ (σ.1 468 18) then (x1, (u_X9_end_1 x1 σ)) else (-1, σ))
set_option maxRecDepth 100000 in
set_option maxHeartbeats 1000000 in
theorem c_X9_end {cp : Nat → Bool} {nx : Nat} (x1 : Int32) (σ : zS) : zCl 1 cp nx cp nx 157 [.inr (9, 57, 468), .inl x1] σ (fun v σ1 => v = some (.inl ((r_X9_end x1 σ).1)) ∧ σ1 = (r_X9_end x1 σ).2) := by
  refine zmeth (cd := kX9_end) [] 1000 (Nat.le_of_ble_eq_true rfl) rfl okX9_end (Nat.le_refl _) (Nat.le_of_ble_eq_true rfl) ?_
  refine And.intro (fun (h1 : x1 < 0) => ?_) (fun (h1 : ¬ x1 < 0) => ?_)
  · exact And.intro rfl (And.intro rfl ⟨by rw [r_X9_end, if_pos h1] <;> rfl, by rw [r_X9_end, if_pos h1] <;> rfl⟩)
  · refine And.intro (fun (h2 : x1 ≤ (σ.1 468 18)) => ?_) (fun (h2 : ¬ x1 ≤ (σ.1 468 18)) => ?_)
    · exact And.intro rfl (And.intro rfl ⟨by rw [r_X9_end, if_neg h1, if_pos h2] <;> rfl, by rw [r_X9_end, if_neg h1, if_pos h2] <;> rfl⟩)
    · exact And.intro rfl (And.intro rfl ⟨by rw [r_X9_end, if_neg h1, if_neg h2] <;> rfl, by rw [r_X9_end, if_neg h1, if_neg h2] <;> rfl⟩)
def f_X9_signAt (x1 : Int32) (σ : zS) : Int32 := if (σ.1 468 19) ≤ x1 then 0 else (σ.1 485 (x1).toNatClampNeg)
def p_X9_signAt (x1 : Int32) (σ : zS) : Prop := ¬ (σ.1 468 19) ≤ x1 → vp_in x1 1000
set_option maxRecDepth 100000 in
set_option maxHeartbeats 1000000 in
theorem c_X9_signAt {nx : Nat} (x1 : Int32) (σ : zS) (hp : p_X9_signAt x1 σ) : zCl 1 zall nx zall nx 158 [.inr (9, 57, 468), .inl x1] σ (fun v σ1 => v = some (.inl (f_X9_signAt x1 σ)) ∧ σ1 = σ) := by
  refine zmeth (cd := kX9_signAt) [] 1000 (Nat.le_of_ble_eq_true rfl) rfl okX9_signAt (Nat.le_refl _) (Nat.le_of_ble_eq_true rfl) ?_
  refine And.intro (fun (h1 : (σ.1 468 19) ≤ x1) => ?_) (fun (h1 : ¬ (σ.1 468 19) ≤ x1) => ?_)
  · exact And.intro rfl (And.intro rfl ⟨by rw [f_X9_signAt, if_pos h1] <;> rfl, rfl⟩)
  · refine And.intro (hp h1) ?_
    exact And.intro rfl (And.intro rfl ⟨by rw [f_X9_signAt, if_neg h1] <;> rfl, rfl⟩)
def f_X9_isLetter (x1 : Int32) : Int32 := if x1 < 97 then 0 else (if 122 < x1 then 0 else 1)
set_option maxRecDepth 100000 in
set_option maxHeartbeats 1000000 in
theorem c_X9_isLetter {cp : Nat → Bool} {nx : Nat} (x1 : Int32) (σ : zS) : zCl 1 cp nx cp nx 159 [.inl x1] σ (fun v σ1 => v = some (.inl (f_X9_isLetter x1)) ∧ σ1 = σ) := by
  refine zmeth (cd := kX9_isLetter) [] 1000 (Nat.le_of_ble_eq_true rfl) rfl okX9_isLetter (Nat.le_refl _) (Nat.le_of_ble_eq_true rfl) ?_
  refine And.intro (fun (h1 : x1 < 97) => ?_) (fun (h1 : ¬ x1 < 97) => ?_)
  · exact And.intro rfl (And.intro rfl (And.intro (Or.inl rfl) ⟨by rw [f_X9_isLetter, if_pos h1] <;> rfl, rfl⟩))
  · refine And.intro (fun (h2 : 122 < x1) => ?_) (fun (h2 : ¬ 122 < x1) => ?_)
    · exact And.intro rfl (And.intro rfl (And.intro (Or.inl rfl) ⟨by rw [f_X9_isLetter, if_neg h1, if_pos h2] <;> rfl, rfl⟩))
    · exact And.intro rfl (And.intro rfl (And.intro (Or.inr rfl) ⟨by rw [f_X9_isLetter, if_neg h1, if_neg h2] <;> rfl, rfl⟩))
theorem b_X9_isLetter {x1 : Int32} : f_X9_isLetter x1 = 0 ∨ f_X9_isLetter x1 = 1 := by
  unfold f_X9_isLetter
  (repeat' split) <;> first | exact Or.inl rfl | exact Or.inr rfl
def f_X9_isDigit (x1 : Int32) : Int32 := if x1 < 48 then 0 else (if 57 < x1 then 0 else 1)
set_option maxRecDepth 100000 in
set_option maxHeartbeats 1000000 in
theorem c_X9_isDigit {cp : Nat → Bool} {nx : Nat} (x1 : Int32) (σ : zS) : zCl 1 cp nx cp nx 160 [.inl x1] σ (fun v σ1 => v = some (.inl (f_X9_isDigit x1)) ∧ σ1 = σ) := by
  refine zmeth (cd := kX9_isDigit) [] 1000 (Nat.le_of_ble_eq_true rfl) rfl okX9_isDigit (Nat.le_refl _) (Nat.le_of_ble_eq_true rfl) ?_
  refine And.intro (fun (h1 : x1 < 48) => ?_) (fun (h1 : ¬ x1 < 48) => ?_)
  · exact And.intro rfl (And.intro rfl (And.intro (Or.inl rfl) ⟨by rw [f_X9_isDigit, if_pos h1] <;> rfl, rfl⟩))
  · refine And.intro (fun (h2 : 57 < x1) => ?_) (fun (h2 : ¬ 57 < x1) => ?_)
    · exact And.intro rfl (And.intro rfl (And.intro (Or.inl rfl) ⟨by rw [f_X9_isDigit, if_neg h1, if_pos h2] <;> rfl, rfl⟩))
    · exact And.intro rfl (And.intro rfl (And.intro (Or.inr rfl) ⟨by rw [f_X9_isDigit, if_neg h1, if_neg h2] <;> rfl, rfl⟩))
theorem b_X9_isDigit {x1 : Int32} : f_X9_isDigit x1 = 0 ∨ f_X9_isDigit x1 = 1 := by
  unfold f_X9_isDigit
  (repeat' split) <;> first | exact Or.inl rfl | exact Or.inr rfl
