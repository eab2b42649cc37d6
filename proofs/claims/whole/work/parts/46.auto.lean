/-! printed by wip/whole/dec2.py -/
def f_X9_isTask (x1 : Int32) (σ : zS) : Int32 := f_X9_isIn x1 0 ((f_X9_many σ) - 1)
def p_X9_isTask (x1 : Int32) (σ : zS) : Prop := p_X9_many σ
set_option maxRecDepth 100000 in
set_option maxHeartbeats 1000000 in
theorem c_X9_isTask {nx : Nat} (x1 : Int32) (σ : zS) (hp : p_X9_isTask x1 σ) : zCl 2 zall nx zall nx 208 [.inr (9, 57, 468), .inl x1] σ (fun v σ1 => v = some (.inl (f_X9_isTask x1 σ)) ∧ σ1 = σ) := by
  refine zmeth (cd := kX9_isTask) [] 1000 (Nat.le_of_ble_eq_true rfl) rfl okX9_isTask (Nat.le_refl _) (Nat.le_of_ble_eq_true rfl) ?_
  refine zCl.use (c_X9_many σ hp) (Nat.le_of_ble_eq_true rfl) ?_
  rintro _ σz ⟨rfl, hz⟩
  subst σz
  refine zCl.use (c_X9_isIn x1 0 ((f_X9_many σ) - 1) σ) (Nat.le_of_ble_eq_true rfl) ?_
  rintro _ σz ⟨rfl, hz⟩
  subst σz
  exact And.intro rfl (And.intro rfl (And.intro b_X9_isIn ⟨by rw [f_X9_isTask] <;> rfl, rfl⟩))
theorem b_X9_isTask {x1 : Int32} {σ : zS} : f_X9_isTask x1 σ = 0 ∨ f_X9_isTask x1 σ = 1 := by
  unfold f_X9_isTask
  (repeat' split) <;> first | exact Or.inl rfl | exact Or.inr rfl | exact b_X9_isIn
def f_X9_isWindow (x1 : Int32) (σ : zS) : Int32 := f_X9_isIn x1 0 ((f_X9_windowsNow σ) - 1)
def p_X9_isWindow (x1 : Int32) (σ : zS) : Prop := p_X9_windowsNow σ
set_option maxRecDepth 100000 in
set_option maxHeartbeats 1000000 in
theorem c_X9_isWindow {nx : Nat} (x1 : Int32) (σ : zS) (hp : p_X9_isWindow x1 σ) : zCl 2 zall nx zall nx 209 [.inr (9, 57, 468), .inl x1] σ (fun v σ1 => v = some (.inl (f_X9_isWindow x1 σ)) ∧ σ1 = σ) := by
  refine zmeth (cd := kX9_isWindow) [] 1000 (Nat.le_of_ble_eq_true rfl) rfl okX9_isWindow (Nat.le_refl _) (Nat.le_of_ble_eq_true rfl) ?_
  refine zCl.use (c_X9_windowsNow σ hp) (Nat.le_of_ble_eq_true rfl) ?_
  rintro _ σz ⟨rfl, hz⟩
  subst σz
  refine zCl.use (c_X9_isIn x1 0 ((f_X9_windowsNow σ) - 1) σ) (Nat.le_of_ble_eq_true rfl) ?_
  rintro _ σz ⟨rfl, hz⟩
  subst σz
  exact And.intro rfl (And.intro rfl (And.intro b_X9_isIn ⟨by rw [f_X9_isWindow] <;> rfl, rfl⟩))
theorem b_X9_isWindow {x1 : Int32} {σ : zS} : f_X9_isWindow x1 σ = 0 ∨ f_X9_isWindow x1 σ = 1 := by
  unfold f_X9_isWindow
  (repeat' split) <;> first | exact Or.inl rfl | exact Or.inr rfl | exact b_X9_isIn
def f_X9_isFunction (x1 : Int32) (σ : zS) : Int32 := f_X9_isIn x1 0 ((σ.1 476 (σ.1 468 16).toNatClampNeg) - 1)
def p_X9_isFunction (x1 : Int32) (σ : zS) : Prop := vp_in (σ.1 468 16) 2
set_option maxRecDepth 100000 in
set_option maxHeartbeats 1000000 in
theorem c_X9_isFunction {nx : Nat} (x1 : Int32) (σ : zS) (hp : p_X9_isFunction x1 σ) : zCl 2 zall nx zall nx 210 [.inr (9, 57, 468), .inl x1] σ (fun v σ1 => v = some (.inl (f_X9_isFunction x1 σ)) ∧ σ1 = σ) := by
  refine zmeth (cd := kX9_isFunction) [] 1000 (Nat.le_of_ble_eq_true rfl) rfl okX9_isFunction (Nat.le_refl _) (Nat.le_of_ble_eq_true rfl) ?_
  refine And.intro hp ?_
  refine zCl.use (c_X9_isIn x1 0 ((σ.1 476 (σ.1 468 16).toNatClampNeg) - 1) σ) (Nat.le_of_ble_eq_true rfl) ?_
  rintro _ σz ⟨rfl, hz⟩
  subst σz
  exact And.intro rfl (And.intro rfl (And.intro b_X9_isIn ⟨by rw [f_X9_isFunction] <;> rfl, rfl⟩))
theorem b_X9_isFunction {x1 : Int32} {σ : zS} : f_X9_isFunction x1 σ = 0 ∨ f_X9_isFunction x1 σ = 1 := by
  unfold f_X9_isFunction
  (repeat' split) <;> first | exact Or.inl rfl | exact Or.inr rfl | exact b_X9_isIn
def f_X9_atTask (x1 : Int32) (x2 : Int32) : Int32 := (136 + (20 * x1)) + x2
set_option maxRecDepth 100000 in
set_option maxHeartbeats 1000000 in
theorem c_X9_atTask {cp : Nat → Bool} {nx : Nat} (x1 : Int32) (x2 : Int32) (σ : zS) : zCl 1 cp nx cp nx 211 [.inl x1, .inl x2] σ (fun v σ1 => v = some (.inl (f_X9_atTask x1 x2)) ∧ σ1 = σ) := by
  refine zmeth (cd := kX9_atTask) [] 1000 (Nat.le_of_ble_eq_true rfl) rfl okX9_atTask (Nat.le_refl _) (Nat.le_of_ble_eq_true rfl) ?_
  exact And.intro rfl (And.intro rfl ⟨by rw [f_X9_atTask] <;> rfl, rfl⟩)
def f_X9_state (x1 : Int32) (σ : zS) : Int32 := σ.1 469 (f_X9_atTask x1 0).toNatClampNeg
def p_X9_state (x1 : Int32) (σ : zS) : Prop := vp_in (f_X9_atTask x1 0) 14241
set_option maxRecDepth 100000 in
set_option maxHeartbeats 1000000 in
theorem c_X9_state {nx : Nat} (x1 : Int32) (σ : zS) (hp : p_X9_state x1 σ) : zCl 2 zall nx zall nx 212 [.inr (9, 57, 468), .inl x1] σ (fun v σ1 => v = some (.inl (f_X9_state x1 σ)) ∧ σ1 = σ) := by
  refine zmeth (cd := kX9_state) [] 1000 (Nat.le_of_ble_eq_true rfl) rfl okX9_state (Nat.le_refl _) (Nat.le_of_ble_eq_true rfl) ?_
  refine zCl.use (c_X9_atTask x1 0 σ) (Nat.le_of_ble_eq_true rfl) ?_
  rintro _ σz ⟨rfl, hz⟩
  subst σz
  refine And.intro hp ?_
  exact And.intro rfl (And.intro rfl ⟨by rw [f_X9_state] <;> rfl, rfl⟩)
def f_X9_frames (x1 : Int32) (σ : zS) : Int32 := σ.1 469 (f_X9_atTask x1 1).toNatClampNeg
def p_X9_frames (x1 : Int32) (σ : zS) : Prop := vp_in (f_X9_atTask x1 1) 14241
set_option maxRecDepth 100000 in
set_option maxHeartbeats 1000000 in
theorem c_X9_frames {nx : Nat} (x1 : Int32) (σ : zS) (hp : p_X9_frames x1 σ) : zCl 2 zall nx zall nx 213 [.inr (9, 57, 468), .inl x1] σ (fun v σ1 => v = some (.inl (f_X9_frames x1 σ)) ∧ σ1 = σ) := by
  refine zmeth (cd := kX9_frames) [] 1000 (Nat.le_of_ble_eq_true rfl) rfl okX9_frames (Nat.le_refl _) (Nat.le_of_ble_eq_true rfl) ?_
  refine zCl.use (c_X9_atTask x1 1 σ) (Nat.le_of_ble_eq_true rfl) ?_
  rintro _ σz ⟨rfl, hz⟩
  subst σz
  refine And.intro hp ?_
  exact And.intro rfl (And.intro rfl ⟨by rw [f_X9_frames] <;> rfl, rfl⟩)
def f_X9_resident (x1 : Int32) (σ : zS) : Int32 := σ.1 469 (f_X9_atTask x1 2).toNatClampNeg
def p_X9_resident (x1 : Int32) (σ : zS) : Prop := vp_in (f_X9_atTask x1 2) 14241
set_option maxRecDepth 100000 in
set_option maxHeartbeats 1000000 in
theorem c_X9_resident {nx : Nat} (x1 : Int32) (σ : zS) (hp : p_X9_resident x1 σ) : zCl 2 zall nx zall nx 214 [.inr (9, 57, 468), .inl x1] σ (fun v σ1 => v = some (.inl (f_X9_resident x1 σ)) ∧ σ1 = σ) := by
  refine zmeth (cd := kX9_resident) [] 1000 (Nat.le_of_ble_eq_true rfl) rfl okX9_resident (Nat.le_refl _) (Nat.le_of_ble_eq_true rfl) ?_
  refine zCl.use (c_X9_atTask x1 2 σ) (Nat.le_of_ble_eq_true rfl) ?_
  rintro _ σz ⟨rfl, hz⟩
  subst σz
  refine And.intro hp ?_
  exact And.intro rfl (And.intro rfl ⟨by rw [f_X9_resident] <;> rfl, rfl⟩)
def f_X9_atFrame (x1 : Int32) (x2 : Int32) (x3 : Int32) : Int32 := (((236 + (2801 * x1)) + 1) + (6 * (x2 - 1))) + x3
set_option maxRecDepth 100000 in
set_option maxHeartbeats 1000000 in
theorem c_X9_atFrame {cp : Nat → Bool} {nx : Nat} (x1 : Int32) (x2 : Int32) (x3 : Int32) (σ : zS) : zCl 1 cp nx cp nx 215 [.inl x1, .inl x2, .inl x3] σ (fun v σ1 => v = some (.inl (f_X9_atFrame x1 x2 x3)) ∧ σ1 = σ) := by
  refine zmeth (cd := kX9_atFrame) [] 1000 (Nat.le_of_ble_eq_true rfl) rfl okX9_atFrame (Nat.le_refl _) (Nat.le_of_ble_eq_true rfl) ?_
  exact And.intro rfl (And.intro rfl ⟨by rw [f_X9_atFrame] <;> rfl, rfl⟩)
def f_X9_atStack (x1 : Int32) (x2 : Int32) : Int32 := ((236 + (2801 * x1)) + 361) + x2
set_option maxRecDepth 100000 in
set_option maxHeartbeats 1000000 in
theorem c_X9_atStack {cp : Nat → Bool} {nx : Nat} (x1 : Int32) (x2 : Int32) (σ : zS) : zCl 1 cp nx cp nx 216 [.inl x1, .inl x2] σ (fun v σ1 => v = some (.inl (f_X9_atStack x1 x2)) ∧ σ1 = σ) := by
  refine zmeth (cd := kX9_atStack) [] 1000 (Nat.le_of_ble_eq_true rfl) rfl okX9_atStack (Nat.le_refl _) (Nat.le_of_ble_eq_true rfl) ?_
  exact And.intro rfl (And.intro rfl ⟨by rw [f_X9_atStack] <;> rfl, rfl⟩)
def f_X9_atLies (x1 : Int32) : Int32 := (236 + (2801 * x1)) + 0
set_option maxRecDepth 100000 in
set_option maxHeartbeats 1000000 in
theorem c_X9_atLies {cp : Nat → Bool} {nx : Nat} (x1 : Int32) (σ : zS) : zCl 1 cp nx cp nx 217 [.inl x1] σ (fun v σ1 => v = some (.inl (f_X9_atLies x1)) ∧ σ1 = σ) := by
  refine zmeth (cd := kX9_atLies) [] 1000 (Nat.le_of_ble_eq_true rfl) rfl okX9_atLies (Nat.le_refl _) (Nat.le_of_ble_eq_true rfl) ?_
  exact And.intro rfl (And.intro rfl ⟨by rw [f_X9_atLies] <;> rfl, rfl⟩)
def u_X9_clearTask_h0_1 (N : Nat) (v1 : Int32) (v2 : Int32) (σ : zS) : zS := zuI σ 469 (f_X9_atTask v1 5).toNatClampNeg 1
def u_X9_clearTask_h0_2 (N : Nat) (v1 : Int32) (v2 : Int32) (σ : zS) : zS := zuI (u_X9_clearTask_h0_1 N v1 v2 σ) 469 (f_X9_atLies v1).toNatClampNeg 0
def u_X9_clearTask_h0_3 (N : Nat) (v1 : Int32) (v2 : Int32) (σ : zS) : zS := zuI σ 469 (f_X9_atTask v1 v2).toNatClampNeg 0
def l_X9_clearTask (N : Nat) : Nat → Int32 → Int32 → zS → zS
  | 0, _, _, σ => σ
  | n + 1, v1, v2, σ => if 20 ≤ v2 then (u_X9_clearTask_h0_2 N v1 v2 σ) else (l_X9_clearTask N n v1 (v2 + 1) (u_X9_clearTask_h0_3 N v1 v2 σ))
def q_X9_clearTask (N : Nat) : Nat → Int32 → Int32 → zS → Prop
  | 0, _, _, _ => False
  | n + 1, v1, v2, σ => (20 ≤ v2 → (vp_in (f_X9_atTask v1 5) 14241 ∧ vp_in (f_X9_atLies v1) 14241)) ∧ (¬ 20 ≤ v2 → (vp_in (f_X9_atTask v1 v2) 14241 ∧ q_X9_clearTask N n v1 (v2 + 1) (u_X9_clearTask_h0_3 N v1 v2 σ)))
set_option maxRecDepth 100000 in
set_option maxHeartbeats 1000000 in
theorem w_X9_clearTask {nx : Nat} (N : Nat) : ∀ n : Nat, (∀ (v1 : Int32) (v2 : Int32) (σ : zS), q_X9_clearTask N n v1 v2 σ → zWp 2 zall nx 218 (fun v σ1 => v = none ∧ σ1 = l_X9_clearTask N n v1 v2 σ) zall nx 2 [some (.inr (9, 57, 468)), some (.inl v1), some (.inl v2)] [] σ) := by
  intro n
  induction n with
  | zero => exact fun _ _ _ h => h.elim
  | succ n ih =>
    intro v1 v2 σ hp
    rw [q_X9_clearTask] at hp
    refine zvc_sound (cd := kX9_clearTask) (cs := [2]) rfl okX9_clearTask 1000 _ _ 2 (zseek kX9_clearTask 2) _ _ _ zseek_sub ?_
    refine And.intro (fun (h1 : 20 ≤ v2) => ?_) (fun (h1 : ¬ 20 ≤ v2) => ?_)
    · refine zCl.use (c_X9_atTask v1 5 σ) (Nat.le_of_ble_eq_true rfl) ?_
      rintro _ σz ⟨rfl, hz⟩
      subst σz
      refine And.intro (hp.1 h1).1 ?_
      refine zCl.use (c_X9_atLies v1 (u_X9_clearTask_h0_1 N v1 v2 σ)) (Nat.le_of_ble_eq_true rfl) ?_
      rintro _ σz ⟨rfl, hz⟩
      subst σz
      refine And.intro (hp.1 h1).2 ?_
      exact And.intro rfl (And.intro rfl ⟨rfl, by rw [l_X9_clearTask, if_pos h1] <;> rfl⟩)
    · refine zCl.use (c_X9_atTask v1 v2 σ) (Nat.le_of_ble_eq_true rfl) ?_
      rintro _ σz ⟨rfl, hz⟩
      subst σz
      refine And.intro (hp.2 h1).1 ?_
      refine zWp.use (ih v1 (v2 + 1) (u_X9_clearTask_h0_3 N v1 v2 σ) (hp.2 h1).2) (And.intro rfl (And.intro rfl (And.intro rfl trivial))) (fun vy σy hy => ?_)
      rw [l_X9_clearTask, if_neg h1]; exact hy
def s_X9_clearTask (x1 : Int32) (N : Nat) (σ : zS) : zS := l_X9_clearTask N N x1 0 σ
def p_X9_clearTask (x1 : Int32) (N : Nat) (σ : zS) : Prop := q_X9_clearTask N N x1 0 σ
set_option maxRecDepth 100000 in
set_option maxHeartbeats 1000000 in
theorem c_X9_clearTask {nx : Nat} (x1 : Int32) (N : Nat) (σ : zS) (hp : p_X9_clearTask x1 N σ) : zCl 2 zall nx zall nx 218 [.inr (9, 57, 468), .inl x1] σ (fun v σ1 => v = none ∧ σ1 = s_X9_clearTask x1 N σ) := by
  refine zmeth (cd := kX9_clearTask) [2] 1000 (Nat.le_of_ble_eq_true rfl) rfl okX9_clearTask (Nat.le_refl _) (Nat.le_of_ble_eq_true rfl) ?_
  refine zWp.use ((w_X9_clearTask N N) x1 0 σ hp) (And.intro rfl (And.intro rfl (And.intro rfl trivial))) (fun vy σy hy => ?_)
  rw [s_X9_clearTask]; exact hy
def u_X9_clearRing_h0_1 (N : Nat) (v1 : Int32) (σ : zS) : zS := zuI σ 469 10 (-1)
def u_X9_clearRing_h0_2 (N : Nat) (v1 : Int32) (σ : zS) : zS := zuI σ 469 (12 + v1).toNatClampNeg (-1)
def u_X9_clearRing_h0_3 (N : Nat) (v1 : Int32) (σ : zS) : zS := zuI (u_X9_clearRing_h0_2 N v1 σ) 469 (24 + v1).toNatClampNeg (-1)
def l_X9_clearRing (N : Nat) : Nat → Int32 → zS → zS
  | 0, _, σ => σ
  | n + 1, v1, σ => if 12 ≤ v1 then (u_X9_clearRing_h0_1 N v1 σ) else (l_X9_clearRing N n (v1 + 1) (u_X9_clearRing_h0_3 N v1 σ))
def q_X9_clearRing (N : Nat) : Nat → Int32 → zS → Prop
  | 0, _, _ => False
  | n + 1, v1, σ => ¬ 12 ≤ v1 → (vp_in (12 + v1) 14241 ∧ (vp_in (24 + v1) 14241 ∧ q_X9_clearRing N n (v1 + 1) (u_X9_clearRing_h0_3 N v1 σ)))
set_option maxRecDepth 100000 in
set_option maxHeartbeats 1000000 in
theorem w_X9_clearRing {nx : Nat} (N : Nat) : ∀ n : Nat, (∀ (v1 : Int32) (σ : zS), q_X9_clearRing N n v1 σ → zWp 1 zall nx 219 (fun v σ1 => v = none ∧ σ1 = l_X9_clearRing N n v1 σ) zall nx 2 [some (.inr (9, 57, 468)), some (.inl v1)] [] σ) := by
  intro n
  induction n with
  | zero => exact fun _ _ h => h.elim
  | succ n ih =>
    intro v1 σ hp
    rw [q_X9_clearRing] at hp
    refine zvc_sound (cd := kX9_clearRing) (cs := [2]) rfl okX9_clearRing 1000 _ _ 2 (zseek kX9_clearRing 2) _ _ _ zseek_sub ?_
    refine And.intro (fun (h1 : 12 ≤ v1) => ?_) (fun (h1 : ¬ 12 ≤ v1) => ?_)
    · refine And.intro (vp_in_iff.mpr (by decide)) ?_
      exact And.intro rfl (And.intro rfl ⟨rfl, by rw [l_X9_clearRing, if_pos h1] <;> rfl⟩)
    · refine And.intro (hp h1).1 ?_
      refine And.intro (hp h1).2.1 ?_
      refine zWp.use (ih (v1 + 1) (u_X9_clearRing_h0_3 N v1 σ) (hp h1).2.2) (And.intro rfl (And.intro rfl trivial)) (fun vy σy hy => ?_)
      rw [l_X9_clearRing, if_neg h1]; exact hy
def s_X9_clearRing (N : Nat) (σ : zS) : zS := l_X9_clearRing N N 0 σ
def p_X9_clearRing (N : Nat) (σ : zS) : Prop := q_X9_clearRing N N 0 σ
set_option maxRecDepth 100000 in
set_option maxHeartbeats 1000000 in
theorem c_X9_clearRing {nx : Nat} (N : Nat) (σ : zS) (hp : p_X9_clearRing N σ) : zCl 1 zall nx zall nx 219 [.inr (9, 57, 468)] σ (fun v σ1 => v = none ∧ σ1 = s_X9_clearRing N σ) := by
  refine zmeth (cd := kX9_clearRing) [2] 1000 (Nat.le_of_ble_eq_true rfl) rfl okX9_clearRing (Nat.le_refl _) (Nat.le_of_ble_eq_true rfl) ?_
  refine zWp.use ((w_X9_clearRing N N) 0 σ hp) (And.intro rfl (And.intro rfl trivial)) (fun vy σy hy => ?_)
  rw [s_X9_clearRing]; exact hy
