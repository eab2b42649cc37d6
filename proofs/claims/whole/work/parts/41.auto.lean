/-! printed by wip/whole/dec2.py -/
def f_X4_isOver (o : Nat) (x1 : Int32) (σ : zS) : Int32 := if (σ.1 (f_X4_taskAt o x1 σ) 1) = 2 then 1 else (if (σ.1 (f_X4_taskAt o x1 σ) 1) = 3 then 1 else 0)
def p_X4_isOver (o : Nat) (x1 : Int32) (σ : zS) : Prop := p_X4_taskAt o x1 σ
set_option maxRecDepth 100000 in
set_option maxHeartbeats 1000000 in
theorem c_X4_isOver {nx : Nat} (o : Nat) (x1 : Int32) (σ : zS) (hp : p_X4_isOver o x1 σ) : zCl 2 zall nx zall nx 54 [.inr (4, 17, o), .inl x1] σ (fun v σ1 => v = some (.inl (f_X4_isOver o x1 σ)) ∧ σ1 = σ) := by
  refine zmeth (cd := kX4_isOver) [] 1000 (Nat.le_of_ble_eq_true rfl) rfl okX4_isOver (Nat.le_refl _) (Nat.le_of_ble_eq_true rfl) ?_
  refine zCl.use (c_X4_taskAt o x1 σ hp) (Nat.le_of_ble_eq_true rfl) ?_
  rintro _ σz ⟨rfl, hz⟩
  subst σz
  refine And.intro (fun (h1 : (σ.1 (f_X4_taskAt o x1 σ) 1) = 2) => ?_) (fun (h1 : ¬ (σ.1 (f_X4_taskAt o x1 σ) 1) = 2) => ?_)
  · exact And.intro rfl (And.intro rfl (And.intro (Or.inr rfl) ⟨by rw [f_X4_isOver, if_pos h1] <;> rfl, rfl⟩))
  · refine And.intro (fun (h2 : ¬ (σ.1 (f_X4_taskAt o x1 σ) 1) = 3) => ?_) (fun (h2 : (σ.1 (f_X4_taskAt o x1 σ) 1) = 3) => ?_)
    · exact And.intro rfl (And.intro rfl (And.intro (Or.inl rfl) ⟨by rw [f_X4_isOver, if_neg h1, if_neg h2] <;> rfl, rfl⟩))
    · exact And.intro rfl (And.intro rfl (And.intro (Or.inr rfl) ⟨by rw [f_X4_isOver, if_neg h1, if_pos h2] <;> rfl, rfl⟩))
theorem b_X4_isOver {o : Nat} {x1 : Int32} {σ : zS} : f_X4_isOver o x1 σ = 0 ∨ f_X4_isOver o x1 σ = 1 := by
  unfold f_X4_isOver
  (repeat' split) <;> first | exact Or.inl rfl | exact Or.inr rfl
def f_X4_cost (o : Nat) (σ : zS) : Int32 := ((σ.1 o 10) * (σ.1 o 4)) + ((σ.1 o 11) * (σ.1 o 5))
set_option maxRecDepth 100000 in
set_option maxHeartbeats 1000000 in
theorem c_X4_cost {cp : Nat → Bool} {nx : Nat} (o : Nat) (σ : zS) : zCl 1 cp nx cp nx 55 [.inr (4, 17, o)] σ (fun v σ1 => v = some (.inl (f_X4_cost o σ)) ∧ σ1 = σ) := by
  refine zmeth (cd := kX4_cost) [] 1000 (Nat.le_of_ble_eq_true rfl) rfl okX4_cost (Nat.le_refl _) (Nat.le_of_ble_eq_true rfl) ?_
  exact And.intro rfl (And.intro rfl ⟨by rw [f_X4_cost] <;> rfl, rfl⟩)
def u_X4_foresee_h0_1 (o : Nat) (q1 : Nat) (N : Nat) (v2 : Int32) (σ : zS) : zS := s_X0_foresee ((σ.2 (o + 4) (v2).toNatClampNeg - 1) + 1) 3000 ((σ.2 q1 (v2).toNatClampNeg - 1) + 5) σ
def l_X4_foresee (o : Nat) (q1 : Nat) (N : Nat) : Nat → Int32 → zS → zS
  | 0, _, σ => σ
  | n + 1, v2, σ => if 4 ≤ v2 then σ else (if 4 ≤ v2 then σ else (l_X4_foresee o q1 N n (v2 + 1) (u_X4_foresee_h0_1 o q1 N v2 σ)))
def q_X4_foresee (o : Nat) (q1 : Nat) (N : Nat) : Nat → Int32 → zS → Prop
  | 0, _, _ => False
  | n + 1, v2, σ => ¬ 4 ≤ v2 → (¬ 4 ≤ v2 → (vp_in v2 4 ∧ ((σ.2 (o + 4) (v2).toNatClampNeg ≠ 0 ∧ zlay (σ.2 (o + 4) (v2).toNatClampNeg - 1) = (5, 12)) ∧ ((σ.2 q1 (v2).toNatClampNeg ≠ 0 ∧ zlay (σ.2 q1 (v2).toNatClampNeg - 1) = (7, 5)) ∧ (p_X0_foresee ((σ.2 (o + 4) (v2).toNatClampNeg - 1) + 1) 3000 ((σ.2 q1 (v2).toNatClampNeg - 1) + 5) σ ∧ q_X4_foresee o q1 N n (v2 + 1) (u_X4_foresee_h0_1 o q1 N v2 σ))))))
set_option maxRecDepth 100000 in
set_option maxHeartbeats 1000000 in
theorem w_X4_foresee {nx : Nat} (o : Nat) (q1 : Nat) (N : Nat) : ∀ n : Nat, (∀ (v2 : Int32) (σ : zS), q_X4_foresee o q1 N n v2 σ → zWp 2 zall nx 59 (fun v σ1 => v = none ∧ σ1 = l_X4_foresee o q1 N n v2 σ) zall nx 2 [some (.inr (4, 17, o)), some (.inr (25, 4, q1)), some (.inl v2)] [] σ) := by
  intro n
  induction n with
  | zero => exact fun _ _ h => h.elim
  | succ n ih =>
    intro v2 σ hp
    rw [q_X4_foresee] at hp
    refine zvc_sound (cd := kX4_foresee) (cs := [2]) rfl okX4_foresee 1000 _ _ 2 (zseek kX4_foresee 2) _ _ _ zseek_sub ?_
    refine And.intro (fun (h1 : 4 ≤ v2) => ?_) (fun (h1 : ¬ 4 ≤ v2) => ?_)
    · exact And.intro rfl (And.intro rfl ⟨rfl, by rw [l_X4_foresee, if_pos h1] <;> rfl⟩)
    · refine And.intro (fun (h2 : 4 ≤ v2) => ?_) (fun (h2 : ¬ 4 ≤ v2) => ?_)
      · exact And.intro rfl (And.intro rfl ⟨rfl, by rw [l_X4_foresee, if_neg h1, if_pos h2] <;> rfl⟩)
      · refine And.intro ((hp h1) h2).1 ?_
        refine And.intro ((hp h1) h2).2.1.1 (fun q903 (e3 : σ.2 (o + 4) (v2).toNatClampNeg = q903 + 1) => ?_)
        have g3 : q903 = (σ.2 (o + 4) (v2).toNatClampNeg - 1) := by omega
        subst g3
        rw [((hp h1) h2).2.1.2]
        refine And.intro ((hp h1) h2).1 ?_
        refine And.intro ((hp h1) h2).2.2.1.1 (fun q904 (e4 : σ.2 q1 (v2).toNatClampNeg = q904 + 1) => ?_)
        have g4 : q904 = (σ.2 q1 (v2).toNatClampNeg - 1) := by omega
        subst g4
        rw [((hp h1) h2).2.2.1.2]
        refine zCl.use (c_X0_foresee ((σ.2 (o + 4) (v2).toNatClampNeg - 1) + 1) 3000 ((σ.2 q1 (v2).toNatClampNeg - 1) + 5) σ ((hp h1) h2).2.2.2.1) (Nat.le_of_ble_eq_true rfl) ?_
        rintro _ σz ⟨rfl, hz⟩
        subst σz
        refine zWp.use (ih (v2 + 1) (u_X4_foresee_h0_1 o q1 N v2 σ) ((hp h1) h2).2.2.2.2) (And.intro rfl (And.intro rfl (And.intro rfl trivial))) (fun vy σy hy => ?_)
        rw [l_X4_foresee, if_neg h1, if_neg h2]; exact hy
def s_X4_foresee (o : Nat) (q1 : Nat) (N : Nat) (σ : zS) : zS := l_X4_foresee o q1 N N 0 σ
def p_X4_foresee (o : Nat) (q1 : Nat) (N : Nat) (σ : zS) : Prop := q_X4_foresee o q1 N N 0 σ
set_option maxRecDepth 100000 in
set_option maxHeartbeats 1000000 in
theorem c_X4_foresee {nx : Nat} (o : Nat) (q1 : Nat) (N : Nat) (σ : zS) (hp : p_X4_foresee o q1 N σ) : zCl 2 zall nx zall nx 59 [.inr (4, 17, o), .inr (25, 4, q1)] σ (fun v σ1 => v = none ∧ σ1 = s_X4_foresee o q1 N σ) := by
  refine zmeth (cd := kX4_foresee) [2] 1000 (Nat.le_of_ble_eq_true rfl) rfl okX4_foresee (Nat.le_refl _) (Nat.le_of_ble_eq_true rfl) ?_
  refine zWp.use ((w_X4_foresee o q1 N N) 0 σ hp) (And.intro rfl (And.intro rfl (And.intro rfl trivial))) (fun vy σy hy => ?_)
  rw [s_X4_foresee]; exact hy
def u_X4_leaveAlone_h0_1 (o : Nat) (N : Nat) (v1 : Int32) (v2 : Int32) (σ : zS) : zS := zuI σ o 7 v1
def u_X4_leaveAlone_h0_2 (o : Nat) (N : Nat) (v1 : Int32) (v2 : Int32) (σ : zS) : zS := zuI σ (σ.2 (o + 4) (v2).toNatClampNeg - 1) 1 3
def u_X4_leaveAlone_h0_3 (o : Nat) (N : Nat) (v1 : Int32) (v2 : Int32) (σ : zS) : zS := zuI σ (σ.2 (o + 4) (v2).toNatClampNeg - 1) 1 0
def l_X4_leaveAlone (o : Nat) (N : Nat) : Nat → Int32 → Int32 → zS → zS
  | 0, _, _, σ => σ
  | n + 1, v1, v2, σ => if 4 ≤ v2 then (u_X4_leaveAlone_h0_1 o N v1 v2 σ) else (if v2 = v1 then (l_X4_leaveAlone o N n v1 (v2 + 1) (u_X4_leaveAlone_h0_3 o N v1 v2 σ)) else (l_X4_leaveAlone o N n v1 (v2 + 1) (u_X4_leaveAlone_h0_2 o N v1 v2 σ)))
def q_X4_leaveAlone (o : Nat) (N : Nat) : Nat → Int32 → Int32 → zS → Prop
  | 0, _, _, _ => False
  | n + 1, v1, v2, σ => ¬ 4 ≤ v2 → (vp_in v2 4 ∧ ((σ.2 (o + 4) (v2).toNatClampNeg ≠ 0 ∧ zlay (σ.2 (o + 4) (v2).toNatClampNeg - 1) = (5, 12)) ∧ ((¬ v2 = v1 → q_X4_leaveAlone o N n v1 (v2 + 1) (u_X4_leaveAlone_h0_2 o N v1 v2 σ)) ∧ (v2 = v1 → q_X4_leaveAlone o N n v1 (v2 + 1) (u_X4_leaveAlone_h0_3 o N v1 v2 σ)))))
set_option maxRecDepth 100000 in
set_option maxHeartbeats 1000000 in
theorem w_X4_leaveAlone {nx : Nat} (o : Nat) (N : Nat) : ∀ n : Nat, (∀ (v1 : Int32) (v2 : Int32) (σ : zS), q_X4_leaveAlone o N n v1 v2 σ → zWp 1 zall nx 60 (fun v σ1 => v = none ∧ σ1 = l_X4_leaveAlone o N n v1 v2 σ) zall nx 2 [some (.inr (4, 17, o)), some (.inl v1), some (.inl v2)] [] σ) := by
  intro n
  induction n with
  | zero => exact fun _ _ _ h => h.elim
  | succ n ih =>
    intro v1 v2 σ hp
    rw [q_X4_leaveAlone] at hp
    refine zvc_sound (cd := kX4_leaveAlone) (cs := [2]) rfl okX4_leaveAlone 1000 _ _ 2 (zseek kX4_leaveAlone 2) _ _ _ zseek_sub ?_
    refine And.intro (fun (h1 : 4 ≤ v2) => ?_) (fun (h1 : ¬ 4 ≤ v2) => ?_)
    · exact And.intro rfl (And.intro rfl ⟨rfl, by rw [l_X4_leaveAlone, if_pos h1] <;> rfl⟩)
    · refine And.intro (hp h1).1 ?_
      refine And.intro (hp h1).2.1.1 (fun q902 (e2 : σ.2 (o + 4) (v2).toNatClampNeg = q902 + 1) => ?_)
      have g2 : q902 = (σ.2 (o + 4) (v2).toNatClampNeg - 1) := by omega
      subst g2
      rw [(hp h1).2.1.2]
      refine And.intro (fun (h3 : ¬ v2 = v1) => ?_) (fun (h3 : v2 = v1) => ?_)
      · refine zWp.use (ih v1 (v2 + 1) (u_X4_leaveAlone_h0_2 o N v1 v2 σ) ((hp h1).2.2.1 h3)) (And.intro rfl (And.intro rfl (And.intro rfl trivial))) (fun vy σy hy => ?_)
        rw [l_X4_leaveAlone, if_neg h1, if_neg h3]; exact hy
      · refine zWp.use (ih v1 (v2 + 1) (u_X4_leaveAlone_h0_3 o N v1 v2 σ) ((hp h1).2.2.2 h3)) (And.intro rfl (And.intro rfl (And.intro rfl trivial))) (fun vy σy hy => ?_)
        rw [l_X4_leaveAlone, if_neg h1, if_pos h3]; exact hy
def s_X4_leaveAlone (o : Nat) (x1 : Int32) (N : Nat) (σ : zS) : zS := l_X4_leaveAlone o N N x1 0 σ
def p_X4_leaveAlone (o : Nat) (x1 : Int32) (N : Nat) (σ : zS) : Prop := q_X4_leaveAlone o N N x1 0 σ
set_option maxRecDepth 100000 in
set_option maxHeartbeats 1000000 in
theorem c_X4_leaveAlone {nx : Nat} (o : Nat) (x1 : Int32) (N : Nat) (σ : zS) (hp : p_X4_leaveAlone o x1 N σ) : zCl 1 zall nx zall nx 60 [.inr (4, 17, o), .inl x1] σ (fun v σ1 => v = none ∧ σ1 = s_X4_leaveAlone o x1 N σ) := by
  refine zmeth (cd := kX4_leaveAlone) [2] 1000 (Nat.le_of_ble_eq_true rfl) rfl okX4_leaveAlone (Nat.le_refl _) (Nat.le_of_ble_eq_true rfl) ?_
  refine zWp.use ((w_X4_leaveAlone o N N) x1 0 σ hp) (And.intro rfl (And.intro rfl (And.intro rfl trivial))) (fun vy σy hy => ?_)
  rw [s_X4_leaveAlone]; exact hy
def f_X4_windowOf (o : Nat) (x1 : Int32) (x2 : Int32) (σ : zS) : Int32 := if ((σ.1 ((f_X4_taskAt o x1 σ) + 1) 0) - x2) < 0 then (-1) else (if ((σ.1 ((f_X4_taskAt o x1 σ) + 1) 0) - x2) < (σ.1 (f_X4_taskAt o x1 σ) 2) then (if ((σ.1 (f_X4_taskAt o x1 σ) 3) - ((σ.1 ((f_X4_taskAt o x1 σ) + 1) 0) - x2)) < 0 then (((σ.1 (f_X4_taskAt o x1 σ) 3) - ((σ.1 ((f_X4_taskAt o x1 σ) + 1) 0) - x2)) + (σ.1 o 0)) else ((σ.1 (f_X4_taskAt o x1 σ) 3) - ((σ.1 ((f_X4_taskAt o x1 σ) + 1) 0) - x2))) else (-1))
def p_X4_windowOf (o : Nat) (x1 : Int32) (x2 : Int32) (σ : zS) : Prop := p_X4_taskAt o x1 σ
set_option maxRecDepth 100000 in
set_option maxHeartbeats 1000000 in
theorem c_X4_windowOf {nx : Nat} (o : Nat) (x1 : Int32) (x2 : Int32) (σ : zS) (hp : p_X4_windowOf o x1 x2 σ) : zCl 2 zall nx zall nx 61 [.inr (4, 17, o), .inl x1, .inl x2] σ (fun v σ1 => v = some (.inl (f_X4_windowOf o x1 x2 σ)) ∧ σ1 = σ) := by
  refine zmeth (cd := kX4_windowOf) [] 1000 (Nat.le_of_ble_eq_true rfl) rfl okX4_windowOf (Nat.le_refl _) (Nat.le_of_ble_eq_true rfl) ?_
  refine zCl.use (c_X4_taskAt o x1 σ hp) (Nat.le_of_ble_eq_true rfl) ?_
  rintro _ σz ⟨rfl, hz⟩
  subst σz
  refine And.intro (fun (h1 : ((σ.1 ((f_X4_taskAt o x1 σ) + 1) 0) - x2) < 0) => ?_) (fun (h1 : ¬ ((σ.1 ((f_X4_taskAt o x1 σ) + 1) 0) - x2) < 0) => ?_)
  · exact And.intro rfl (And.intro rfl ⟨by rw [f_X4_windowOf, if_pos h1] <;> rfl, rfl⟩)
  · refine And.intro (fun (h2 : ((σ.1 ((f_X4_taskAt o x1 σ) + 1) 0) - x2) < (σ.1 (f_X4_taskAt o x1 σ) 2)) => ?_) (fun (h2 : ¬ ((σ.1 ((f_X4_taskAt o x1 σ) + 1) 0) - x2) < (σ.1 (f_X4_taskAt o x1 σ) 2)) => ?_)
    · refine And.intro (fun (h3 : ((σ.1 (f_X4_taskAt o x1 σ) 3) - ((σ.1 ((f_X4_taskAt o x1 σ) + 1) 0) - x2)) < 0) => ?_) (fun (h3 : ¬ ((σ.1 (f_X4_taskAt o x1 σ) 3) - ((σ.1 ((f_X4_taskAt o x1 σ) + 1) 0) - x2)) < 0) => ?_)
      · exact And.intro rfl (And.intro rfl ⟨by rw [f_X4_windowOf, if_neg h1, if_pos h2, if_pos h3] <;> rfl, rfl⟩)
      · exact And.intro rfl (And.intro rfl ⟨by rw [f_X4_windowOf, if_neg h1, if_pos h2, if_neg h3] <;> rfl, rfl⟩)
    · exact And.intro rfl (And.intro rfl ⟨by rw [f_X4_windowOf, if_neg h1, if_neg h2] <;> rfl, rfl⟩)
def l_X4_tasksLeft (o : Nat) (N : Nat) : Nat → Int32 → Int32 → zS → Int32
  | 0, _, _, σ => 0
  | n + 1, v1, v2, σ => if (σ.1 o 1) ≤ v2 then v1 else (if (f_X4_isOver o v2 σ) = 0 then (l_X4_tasksLeft o N n (v1 + 1) (v2 + 1) σ) else (l_X4_tasksLeft o N n (v1 + 0) (v2 + 1) σ))
def q_X4_tasksLeft (o : Nat) (N : Nat) : Nat → Int32 → Int32 → zS → Prop
  | 0, _, _, _ => False
  | n + 1, v1, v2, σ => ¬ (σ.1 o 1) ≤ v2 → (p_X4_isOver o v2 σ ∧ (((f_X4_isOver o v2 σ) = 0 → q_X4_tasksLeft o N n (v1 + 1) (v2 + 1) σ) ∧ (¬ (f_X4_isOver o v2 σ) = 0 → q_X4_tasksLeft o N n (v1 + 0) (v2 + 1) σ)))
set_option maxRecDepth 100000 in
set_option maxHeartbeats 1000000 in
theorem w_X4_tasksLeft {nx : Nat} (o : Nat) (N : Nat) : ∀ n : Nat, (∀ (v1 : Int32) (v2 : Int32) (σ : zS), q_X4_tasksLeft o N n v1 v2 σ → zWp 3 zall nx 65 (fun v σ1 => v = some (.inl (l_X4_tasksLeft o N n v1 v2 σ)) ∧ σ1 = σ) zall nx 4 [some (.inr (4, 17, o)), some (.inl v1), some (.inl v2)] [] σ) := by
  intro n
  induction n with
  | zero => exact fun _ _ _ h => h.elim
  | succ n ih =>
    intro v1 v2 σ hp
    rw [q_X4_tasksLeft] at hp
    refine zvc_sound (cd := kX4_tasksLeft) (cs := [4]) rfl okX4_tasksLeft 1000 _ _ 4 (zseek kX4_tasksLeft 4) _ _ _ zseek_sub ?_
    refine And.intro (fun (h1 : (σ.1 o 1) ≤ v2) => ?_) (fun (h1 : ¬ (σ.1 o 1) ≤ v2) => ?_)
    · exact And.intro rfl (And.intro rfl ⟨by rw [l_X4_tasksLeft, if_pos h1] <;> rfl, rfl⟩)
    · refine zCl.use (c_X4_isOver o v2 σ (hp h1).1) (Nat.le_of_ble_eq_true rfl) ?_
      rintro _ σz ⟨rfl, hz⟩
      subst σz
      refine And.intro (fun (h2 : (f_X4_isOver o v2 σ) = 0) => ?_) (fun (h2 : ¬ (f_X4_isOver o v2 σ) = 0) => ?_)
      · refine zWp.use (ih (v1 + 1) (v2 + 1) σ ((hp h1).2.1 h2)) (And.intro rfl (And.intro rfl (And.intro rfl trivial))) (fun vy σy hy => ?_)
        rw [l_X4_tasksLeft, if_neg h1, if_pos h2]; exact hy
      · refine zWp.use (ih (v1 + 0) (v2 + 1) σ ((hp h1).2.2 h2)) (And.intro rfl (And.intro rfl (And.intro rfl trivial))) (fun vy σy hy => ?_)
        rw [l_X4_tasksLeft, if_neg h1, if_neg h2]; exact hy
def f_X4_tasksLeft (o : Nat) (N : Nat) (σ : zS) : Int32 := l_X4_tasksLeft o N N 0 0 σ
def p_X4_tasksLeft (o : Nat) (N : Nat) (σ : zS) : Prop := q_X4_tasksLeft o N N 0 0 σ
set_option maxRecDepth 100000 in
set_option maxHeartbeats 1000000 in
theorem c_X4_tasksLeft {nx : Nat} (o : Nat) (N : Nat) (σ : zS) (hp : p_X4_tasksLeft o N σ) : zCl 3 zall nx zall nx 65 [.inr (4, 17, o)] σ (fun v σ1 => v = some (.inl (f_X4_tasksLeft o N σ)) ∧ σ1 = σ) := by
  refine zmeth (cd := kX4_tasksLeft) [4] 1000 (Nat.le_of_ble_eq_true rfl) rfl okX4_tasksLeft (Nat.le_refl _) (Nat.le_of_ble_eq_true rfl) ?_
  refine zWp.use ((w_X4_tasksLeft o N N) 0 0 σ hp) (And.intro rfl (And.intro rfl (And.intro rfl trivial))) (fun vy σy hy => ?_)
  rw [f_X4_tasksLeft]; exact hy
def l_X4_nextTurn (o : Nat) (N : Nat) : Nat → Int32 → zS → Int32
  | 0, _, σ => 0
  | n + 1, v1, σ => if (σ.1 o 1) < v1 then (-1) else (if (σ.1 o 1) ≤ ((σ.1 o 7) + v1) then (if (f_X4_isOver o (((σ.1 o 7) + v1) - (σ.1 o 1)) σ) = 0 then (((σ.1 o 7) + v1) - (σ.1 o 1)) else (l_X4_nextTurn o N n (v1 + 1) σ)) else (if (f_X4_isOver o ((σ.1 o 7) + v1) σ) = 0 then ((σ.1 o 7) + v1) else (l_X4_nextTurn o N n (v1 + 1) σ)))
def q_X4_nextTurn (o : Nat) (N : Nat) : Nat → Int32 → zS → Prop
  | 0, _, _ => False
  | n + 1, v1, σ => ¬ (σ.1 o 1) < v1 → (((σ.1 o 1) ≤ ((σ.1 o 7) + v1) → (p_X4_isOver o (((σ.1 o 7) + v1) - (σ.1 o 1)) σ ∧ (¬ (f_X4_isOver o (((σ.1 o 7) + v1) - (σ.1 o 1)) σ) = 0 → q_X4_nextTurn o N n (v1 + 1) σ))) ∧ (¬ (σ.1 o 1) ≤ ((σ.1 o 7) + v1) → (p_X4_isOver o ((σ.1 o 7) + v1) σ ∧ (¬ (f_X4_isOver o ((σ.1 o 7) + v1) σ) = 0 → q_X4_nextTurn o N n (v1 + 1) σ))))
set_option maxRecDepth 100000 in
set_option maxHeartbeats 1000000 in
theorem w_X4_nextTurn {nx : Nat} (o : Nat) (N : Nat) : ∀ n : Nat, (∀ (v1 : Int32) (σ : zS), q_X4_nextTurn o N n v1 σ → zWp 3 zall nx 69 (fun v σ1 => v = some (.inl (l_X4_nextTurn o N n v1 σ)) ∧ σ1 = σ) zall nx 2 [some (.inr (4, 17, o)), some (.inl v1), none] [] σ) := by
  intro n
  induction n with
  | zero => exact fun _ _ h => h.elim
  | succ n ih =>
    intro v1 σ hp
    rw [q_X4_nextTurn] at hp
    refine zvc_sound (cd := kX4_nextTurn) (cs := [2]) rfl okX4_nextTurn 1000 _ _ 2 (zseek kX4_nextTurn 2) _ _ _ zseek_sub ?_
    refine And.intro (fun (h1 : (σ.1 o 1) < v1) => ?_) (fun (h1 : ¬ (σ.1 o 1) < v1) => ?_)
    · exact And.intro rfl (And.intro rfl ⟨by rw [l_X4_nextTurn, if_pos h1] <;> rfl, rfl⟩)
    · refine And.intro (fun (h2 : (σ.1 o 1) ≤ ((σ.1 o 7) + v1)) => ?_) (fun (h2 : ¬ (σ.1 o 1) ≤ ((σ.1 o 7) + v1)) => ?_)
      · refine zCl.use (c_X4_isOver o (((σ.1 o 7) + v1) - (σ.1 o 1)) σ ((hp h1).1 h2).1) (Nat.le_of_ble_eq_true rfl) ?_
        rintro _ σz ⟨rfl, hz⟩
        subst σz
        refine And.intro (fun (h3 : ¬ (f_X4_isOver o (((σ.1 o 7) + v1) - (σ.1 o 1)) σ) = 0) => ?_) (fun (h3 : (f_X4_isOver o (((σ.1 o 7) + v1) - (σ.1 o 1)) σ) = 0) => ?_)
        · refine zWp.use (ih (v1 + 1) σ (((hp h1).1 h2).2 h3)) (And.intro rfl (And.intro rfl trivial)) (fun vy σy hy => ?_)
          rw [l_X4_nextTurn, if_neg h1, if_pos h2, if_neg h3]; exact hy
        · exact And.intro rfl (And.intro rfl ⟨by rw [l_X4_nextTurn, if_neg h1, if_pos h2, if_pos h3] <;> rfl, rfl⟩)
      · refine zCl.use (c_X4_isOver o ((σ.1 o 7) + v1) σ ((hp h1).2 h2).1) (Nat.le_of_ble_eq_true rfl) ?_
        rintro _ σz ⟨rfl, hz⟩
        subst σz
        refine And.intro (fun (h4 : ¬ (f_X4_isOver o ((σ.1 o 7) + v1) σ) = 0) => ?_) (fun (h4 : (f_X4_isOver o ((σ.1 o 7) + v1) σ) = 0) => ?_)
        · refine zWp.use (ih (v1 + 1) σ (((hp h1).2 h2).2 h4)) (And.intro rfl (And.intro rfl trivial)) (fun vy σy hy => ?_)
          rw [l_X4_nextTurn, if_neg h1, if_neg h2, if_neg h4]; exact hy
        · exact And.intro rfl (And.intro rfl ⟨by rw [l_X4_nextTurn, if_neg h1, if_neg h2, if_pos h4] <;> rfl, rfl⟩)
def f_X4_nextTurn (o : Nat) (N : Nat) (σ : zS) : Int32 := l_X4_nextTurn o N N 1 σ
def p_X4_nextTurn (o : Nat) (N : Nat) (σ : zS) : Prop := q_X4_nextTurn o N N 1 σ
set_option maxRecDepth 100000 in
set_option maxHeartbeats 1000000 in
theorem c_X4_nextTurn {nx : Nat} (o : Nat) (N : Nat) (σ : zS) (hp : p_X4_nextTurn o N σ) : zCl 3 zall nx zall nx 69 [.inr (4, 17, o)] σ (fun v σ1 => v = some (.inl (f_X4_nextTurn o N σ)) ∧ σ1 = σ) := by
  refine zmeth (cd := kX4_nextTurn) [2] 1000 (Nat.le_of_ble_eq_true rfl) rfl okX4_nextTurn (Nat.le_refl _) (Nat.le_of_ble_eq_true rfl) ?_
  refine zWp.use ((w_X4_nextTurn o N N) 1 σ hp) (And.intro rfl (And.intro rfl trivial)) (fun vy σy hy => ?_)
  rw [f_X4_nextTurn]; exact hy
def f_X4_behind (o : Nat) (x1 : Int32) (σ : zS) : Int32 := if (σ.1 o 0) ≤ (x1 + 1) then 0 else (x1 + 1)
set_option maxRecDepth 100000 in
set_option maxHeartbeats 1000000 in
theorem c_X4_behind {cp : Nat → Bool} {nx : Nat} (o : Nat) (x1 : Int32) (σ : zS) : zCl 1 cp nx cp nx 81 [.inr (4, 17, o), .inl x1] σ (fun v σ1 => v = some (.inl (f_X4_behind o x1 σ)) ∧ σ1 = σ) := by
  refine zmeth (cd := kX4_behind) [] 1000 (Nat.le_of_ble_eq_true rfl) rfl okX4_behind (Nat.le_refl _) (Nat.le_of_ble_eq_true rfl) ?_
  refine And.intro (fun (h1 : (σ.1 o 0) ≤ (x1 + 1)) => ?_) (fun (h1 : ¬ (σ.1 o 0) ≤ (x1 + 1)) => ?_)
  · exact And.intro rfl (And.intro rfl ⟨by rw [f_X4_behind, if_pos h1] <;> rfl, rfl⟩)
  · exact And.intro rfl (And.intro rfl ⟨by rw [f_X4_behind, if_neg h1] <;> rfl, rfl⟩)
def f_X4_ahead (o : Nat) (x1 : Int32) (σ : zS) : Int32 := if x1 ≤ 0 then ((σ.1 o 0) - 1) else (x1 - 1)
set_option maxRecDepth 100000 in
set_option maxHeartbeats 1000000 in
theorem c_X4_ahead {cp : Nat → Bool} {nx : Nat} (o : Nat) (x1 : Int32) (σ : zS) : zCl 1 cp nx cp nx 82 [.inr (4, 17, o), .inl x1] σ (fun v σ1 => v = some (.inl (f_X4_ahead o x1 σ)) ∧ σ1 = σ) := by
  refine zmeth (cd := kX4_ahead) [] 1000 (Nat.le_of_ble_eq_true rfl) rfl okX4_ahead (Nat.le_refl _) (Nat.le_of_ble_eq_true rfl) ?_
  refine And.intro (fun (h1 : x1 ≤ 0) => ?_) (fun (h1 : ¬ x1 ≤ 0) => ?_)
  · exact And.intro rfl (And.intro rfl ⟨by rw [f_X4_ahead, if_pos h1] <;> rfl, rfl⟩)
  · exact And.intro rfl (And.intro rfl ⟨by rw [f_X4_ahead, if_neg h1] <;> rfl, rfl⟩)
def u_X5_forgetGuesses_1 (o : Nat) (σ : zS) : zS := zuI σ o 6 1
def u_X5_forgetGuesses_2 (o : Nat) (σ : zS) : zS := zuI (u_X5_forgetGuesses_1 o σ) o 7 0
def s_X5_forgetGuesses (o : Nat) (σ : zS) : zS := (u_X5_forgetGuesses_2 o σ)
set_option maxRecDepth 100000 in
set_option maxHeartbeats 1000000 in
theorem c_X5_forgetGuesses {cp : Nat → Bool} {nx : Nat} (o : Nat) (σ : zS) : zCl 1 cp nx cp nx 85 [.inr (5, 12, o)] σ (fun v σ1 => v = none ∧ σ1 = s_X5_forgetGuesses o σ) := by
  refine zmeth (cd := kX5_forgetGuesses) [] 1000 (Nat.le_of_ble_eq_true rfl) rfl okX5_forgetGuesses (Nat.le_refl _) (Nat.le_of_ble_eq_true rfl) ?_
  exact And.intro rfl (And.intro rfl ⟨rfl, by rw [s_X5_forgetGuesses] <;> rfl⟩)
def u_X5_copyFrom_1 (o : Nat) (q1 : Nat) (σ : zS) : zS := s_X0_copyFrom (o + 1) (q1 + 1) σ
def u_X5_copyFrom_2 (o : Nat) (q1 : Nat) (σ : zS) : zS := zuI (u_X5_copyFrom_1 o q1 σ) o 1 ((u_X5_copyFrom_1 o q1 σ).1 q1 1)
def u_X5_copyFrom_3 (o : Nat) (q1 : Nat) (σ : zS) : zS := zuI (u_X5_copyFrom_2 o q1 σ) o 2 ((u_X5_copyFrom_2 o q1 σ).1 q1 2)
def u_X5_copyFrom_4 (o : Nat) (q1 : Nat) (σ : zS) : zS := zuI (u_X5_copyFrom_3 o q1 σ) o 3 ((u_X5_copyFrom_3 o q1 σ).1 q1 3)
def u_X5_copyFrom_5 (o : Nat) (q1 : Nat) (σ : zS) : zS := zuI (u_X5_copyFrom_4 o q1 σ) o 4 ((u_X5_copyFrom_4 o q1 σ).1 q1 4)
def u_X5_copyFrom_6 (o : Nat) (q1 : Nat) (σ : zS) : zS := zuI (u_X5_copyFrom_5 o q1 σ) o 5 ((u_X5_copyFrom_5 o q1 σ).1 q1 5)
def u_X5_copyFrom_7 (o : Nat) (q1 : Nat) (σ : zS) : zS := zuI (u_X5_copyFrom_6 o q1 σ) o 6 ((u_X5_copyFrom_6 o q1 σ).1 q1 6)
def u_X5_copyFrom_8 (o : Nat) (q1 : Nat) (σ : zS) : zS := zuI (u_X5_copyFrom_7 o q1 σ) o 7 ((u_X5_copyFrom_7 o q1 σ).1 q1 7)
def u_X5_copyFrom_9 (o : Nat) (q1 : Nat) (σ : zS) : zS := zuI (u_X5_copyFrom_8 o q1 σ) o 8 ((u_X5_copyFrom_8 o q1 σ).1 q1 8)
def u_X5_copyFrom_10 (o : Nat) (q1 : Nat) (σ : zS) : zS := zuI (u_X5_copyFrom_9 o q1 σ) o 9 ((u_X5_copyFrom_9 o q1 σ).1 q1 9)
def u_X5_copyFrom_11 (o : Nat) (q1 : Nat) (σ : zS) : zS := zuI (u_X5_copyFrom_10 o q1 σ) o 10 ((u_X5_copyFrom_10 o q1 σ).1 q1 10)
def u_X5_copyFrom_12 (o : Nat) (q1 : Nat) (σ : zS) : zS := zuI (u_X5_copyFrom_11 o q1 σ) o 11 ((u_X5_copyFrom_11 o q1 σ).1 q1 11)
def s_X5_copyFrom (o : Nat) (q1 : Nat) (σ : zS) : zS := (u_X5_copyFrom_12 o q1 σ)
def p_X5_copyFrom (o : Nat) (q1 : Nat) (σ : zS) : Prop := p_X0_copyFrom (o + 1) (q1 + 1) σ
set_option maxRecDepth 100000 in
set_option maxHeartbeats 1000000 in
theorem c_X5_copyFrom {nx : Nat} (o : Nat) (q1 : Nat) (σ : zS) (hp : p_X5_copyFrom o q1 σ) : zCl 2 zall nx zall nx 86 [.inr (5, 12, o), .inr (5, 12, q1)] σ (fun v σ1 => v = none ∧ σ1 = s_X5_copyFrom o q1 σ) := by
  refine zmeth (cd := kX5_copyFrom) [] 1000 (Nat.le_of_ble_eq_true rfl) rfl okX5_copyFrom (Nat.le_refl _) (Nat.le_of_ble_eq_true rfl) ?_
  refine zCl.use (c_X0_copyFrom (o + 1) (q1 + 1) σ hp) (Nat.le_of_ble_eq_true rfl) ?_
  rintro _ σz ⟨rfl, hz⟩
  subst σz
  exact And.intro rfl (And.intro rfl ⟨rfl, by rw [s_X5_copyFrom] <;> rfl⟩)
def f_X5_fact (o : Nat) (x1 : Int32) (σ : zS) : Int32 := if x1 = 1 then (σ.1 o 1) else (if x1 = 2 then (σ.1 (o + 1) 0) else (if x1 = 3 then (σ.1 o 2) else (if x1 = 4 then (σ.1 o 4) else (if x1 = 5 then (σ.1 o 5) else (if x1 = 6 then (σ.1 o 6) else (if x1 = 7 then (σ.1 o 7) else (if x1 = 8 then (σ.1 o 8) else (if x1 = 9 then (σ.1 o 9) else (if x1 = 10 then (σ.1 o 10) else (if x1 = 11 then (σ.1 o 11) else (-100)))))))))))
set_option maxRecDepth 100000 in
set_option maxHeartbeats 1000000 in
theorem c_X5_fact {nx : Nat} (o : Nat) (x1 : Int32) (σ : zS) : zCl 1 zall nx zall nx 87 [.inr (5, 12, o), .inl x1] σ (fun v σ1 => v = some (.inl (f_X5_fact o x1 σ)) ∧ σ1 = σ) := by
  refine zmeth (cd := kX5_fact) [] 1000 (Nat.le_of_ble_eq_true rfl) rfl okX5_fact (Nat.le_refl _) (Nat.le_of_ble_eq_true rfl) ?_
  refine And.intro (fun (h1 : x1 = 1) => ?_) (fun (h1 : ¬ x1 = 1) => ?_)
  · exact And.intro rfl (And.intro rfl ⟨by rw [f_X5_fact, if_pos h1] <;> rfl, rfl⟩)
  · refine And.intro (fun (h2 : x1 = 2) => ?_) (fun (h2 : ¬ x1 = 2) => ?_)
    · exact And.intro rfl (And.intro rfl ⟨by rw [f_X5_fact, if_neg h1, if_pos h2] <;> rfl, rfl⟩)
    · refine And.intro (fun (h3 : x1 = 3) => ?_) (fun (h3 : ¬ x1 = 3) => ?_)
      · exact And.intro rfl (And.intro rfl ⟨by rw [f_X5_fact, if_neg h1, if_neg h2, if_pos h3] <;> rfl, rfl⟩)
      · refine And.intro (fun (h4 : x1 = 4) => ?_) (fun (h4 : ¬ x1 = 4) => ?_)
        · exact And.intro rfl (And.intro rfl ⟨by rw [f_X5_fact, if_neg h1, if_neg h2, if_neg h3, if_pos h4] <;> rfl, rfl⟩)
        · refine And.intro (fun (h5 : x1 = 5) => ?_) (fun (h5 : ¬ x1 = 5) => ?_)
          · exact And.intro rfl (And.intro rfl ⟨by rw [f_X5_fact, if_neg h1, if_neg h2, if_neg h3, if_neg h4, if_pos h5] <;> rfl, rfl⟩)
          · refine And.intro (fun (h6 : x1 = 6) => ?_) (fun (h6 : ¬ x1 = 6) => ?_)
            · exact And.intro rfl (And.intro rfl ⟨by rw [f_X5_fact, if_neg h1, if_neg h2, if_neg h3, if_neg h4, if_neg h5, if_pos h6] <;> rfl, rfl⟩)
            · refine And.intro (fun (h7 : x1 = 7) => ?_) (fun (h7 : ¬ x1 = 7) => ?_)
              · exact And.intro rfl (And.intro rfl ⟨by rw [f_X5_fact, if_neg h1, if_neg h2, if_neg h3, if_neg h4, if_neg h5, if_neg h6, if_pos h7] <;> rfl, rfl⟩)
              · refine And.intro (fun (h8 : x1 = 8) => ?_) (fun (h8 : ¬ x1 = 8) => ?_)
                · exact And.intro rfl (And.intro rfl ⟨by rw [f_X5_fact, if_neg h1, if_neg h2, if_neg h3, if_neg h4, if_neg h5, if_neg h6, if_neg h7, if_pos h8] <;> rfl, rfl⟩)
                · refine And.intro (fun (h9 : x1 = 9) => ?_) (fun (h9 : ¬ x1 = 9) => ?_)
                  · exact And.intro rfl (And.intro rfl ⟨by rw [f_X5_fact, if_neg h1, if_neg h2, if_neg h3, if_neg h4, if_neg h5, if_neg h6, if_neg h7, if_neg h8, if_pos h9] <;> rfl, rfl⟩)
                  · refine And.intro (fun (h10 : x1 = 10) => ?_) (fun (h10 : ¬ x1 = 10) => ?_)
                    · exact And.intro rfl (And.intro rfl ⟨by rw [f_X5_fact, if_neg h1, if_neg h2, if_neg h3, if_neg h4, if_neg h5, if_neg h6, if_neg h7, if_neg h8, if_neg h9, if_pos h10] <;> rfl, rfl⟩)
                    · refine And.intro (fun (h11 : x1 = 11) => ?_) (fun (h11 : ¬ x1 = 11) => ?_)
                      · exact And.intro rfl (And.intro rfl ⟨by rw [f_X5_fact, if_neg h1, if_neg h2, if_neg h3, if_neg h4, if_neg h5, if_neg h6, if_neg h7, if_neg h8, if_neg h9, if_neg h10, if_pos h11] <;> rfl, rfl⟩)
                      · exact And.intro rfl (And.intro rfl ⟨by rw [f_X5_fact, if_neg h1, if_neg h2, if_neg h3, if_neg h4, if_neg h5, if_neg h6, if_neg h7, if_neg h8, if_neg h9, if_neg h10, if_neg h11] <;> rfl, rfl⟩)
