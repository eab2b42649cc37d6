/-! printed by wip/whole/dec2.py -/
def u_X1_nextAct_1 (N : Nat) (σ : zS) : zS := zuI σ 30 1 ((σ.1 30 1) + 1)
def u_X1_nextAct_2 (N : Nat) (σ : zS) : zS := zuI (u_X1_nextAct_1 N σ) 30 2 ((u_X1_nextAct_1 N σ).1 30 1)
def u_X1_nextAct_3 (N : Nat) (σ : zS) : zS := s_X4_copyFrom (f_X1_now (u_X1_nextAct_2 N σ)) (f_X1_now σ) N (u_X1_nextAct_2 N σ)
def u_X1_nextAct_4 (N : Nat) (σ : zS) : zS := s_X1_dropOldest N σ
def u_X1_nextAct_5 (N : Nat) (σ : zS) : zS := zuI (u_X1_nextAct_4 N σ) 30 2 ((u_X1_nextAct_4 N σ).1 30 1)
def u_X1_nextAct_6 (N : Nat) (σ : zS) : zS := s_X4_copyFrom (f_X1_now (u_X1_nextAct_5 N σ)) (f_X1_now σ) N (u_X1_nextAct_5 N σ)
def r_X1_nextAct (N : Nat) (σ : zS) : Nat × zS := if (σ.1 30 1) = 12 then ((f_X1_now (u_X1_nextAct_6 N σ)), (u_X1_nextAct_6 N σ)) else ((f_X1_now (u_X1_nextAct_3 N σ)), (u_X1_nextAct_3 N σ))
def p_X1_nextAct (N : Nat) (σ : zS) : Prop := p_X1_now σ ∧ ((¬ (σ.1 30 1) = 12 → (p_X1_now (u_X1_nextAct_2 N σ) ∧ (p_X4_copyFrom (f_X1_now (u_X1_nextAct_2 N σ)) (f_X1_now σ) N (u_X1_nextAct_2 N σ) ∧ p_X1_now (u_X1_nextAct_3 N σ)))) ∧ ((σ.1 30 1) = 12 → (p_X1_dropOldest N σ ∧ (p_X1_now (u_X1_nextAct_5 N σ) ∧ (p_X4_copyFrom (f_X1_now (u_X1_nextAct_5 N σ)) (f_X1_now σ) N (u_X1_nextAct_5 N σ) ∧ p_X1_now (u_X1_nextAct_6 N σ))))))
set_option maxRecDepth 100000 in
set_option maxHeartbeats 1000000 in
theorem c_X1_nextAct {nx : Nat} (N : Nat) (σ : zS) (hp : p_X1_nextAct N σ) : zCl 4 zall nx zall nx 18 [.inr (1, 3, 30)] σ (fun v σ1 => v = some (.inr (4, 17, ((r_X1_nextAct N σ).1))) ∧ σ1 = (r_X1_nextAct N σ).2) := by
  refine zmeth (cd := kX1_nextAct) [] 1000 (Nat.le_of_ble_eq_true rfl) rfl okX1_nextAct (Nat.le_refl _) (Nat.le_of_ble_eq_true rfl) ?_
  refine zCl.use (c_X1_now σ hp.1) (Nat.le_of_ble_eq_true rfl) ?_
  rintro _ σz ⟨rfl, hz⟩
  subst σz
  refine And.intro (fun (h1 : ¬ (σ.1 30 1) = 12) => ?_) (fun (h1 : (σ.1 30 1) = 12) => ?_)
  · refine zCl.use (c_X1_now (u_X1_nextAct_2 N σ) (hp.2.1 h1).1) (Nat.le_of_ble_eq_true rfl) ?_
    rintro _ σz ⟨rfl, hz⟩
    subst σz
    refine zCl.use (c_X4_copyFrom (f_X1_now (u_X1_nextAct_2 N σ)) (f_X1_now σ) N (u_X1_nextAct_2 N σ) (hp.2.1 h1).2.1) (Nat.le_of_ble_eq_true rfl) ?_
    rintro _ σz ⟨rfl, hz⟩
    subst σz
    refine zCl.use (c_X1_now (u_X1_nextAct_3 N σ) (hp.2.1 h1).2.2) (Nat.le_of_ble_eq_true rfl) ?_
    rintro _ σz ⟨rfl, hz⟩
    subst σz
    exact And.intro rfl (And.intro rfl ⟨by rw [r_X1_nextAct, if_neg h1] <;> rfl, by rw [r_X1_nextAct, if_neg h1] <;> rfl⟩)
  · refine zCl.use (c_X1_dropOldest N σ (hp.2.2 h1).1) (Nat.le_of_ble_eq_true rfl) ?_
    rintro _ σz ⟨rfl, hz⟩
    subst σz
    refine zCl.use (c_X1_now (u_X1_nextAct_5 N σ) (hp.2.2 h1).2.1) (Nat.le_of_ble_eq_true rfl) ?_
    rintro _ σz ⟨rfl, hz⟩
    subst σz
    refine zCl.use (c_X4_copyFrom (f_X1_now (u_X1_nextAct_5 N σ)) (f_X1_now σ) N (u_X1_nextAct_5 N σ) (hp.2.2 h1).2.2.1) (Nat.le_of_ble_eq_true rfl) ?_
    rintro _ σz ⟨rfl, hz⟩
    subst σz
    refine zCl.use (c_X1_now (u_X1_nextAct_6 N σ) (hp.2.2 h1).2.2.2) (Nat.le_of_ble_eq_true rfl) ?_
    rintro _ σz ⟨rfl, hz⟩
    subst σz
    exact And.intro rfl (And.intro rfl ⟨by rw [r_X1_nextAct, if_pos h1] <;> rfl, by rw [r_X1_nextAct, if_pos h1] <;> rfl⟩)
def l_X3_functionNamed (N : Nat) : Nat → Int32 → Int32 → Int32 → zS → Int32
  | 0, _, _, _, σ => 0
  | n + 1, v1, v2, v3, σ => if (σ.1 (σ.2 2 1 - 1) 6) ≤ v3 then (-1) else (if (f_X6_sameWords (f_X8_at 6 12 v3 σ) (f_X8_at 6 13 v3 σ) v1 v2 N σ) = 0 then (l_X3_functionNamed N n v1 v2 (v3 + 1) σ) else v3)
def q_X3_functionNamed (N : Nat) : Nat → Int32 → Int32 → Int32 → zS → Prop
  | 0, _, _, _, _ => False
  | n + 1, v1, v2, v3, σ => (σ.2 2 1 ≠ 0 ∧ zlay (σ.2 2 1 - 1) = (2, 16)) ∧ (¬ (σ.1 (σ.2 2 1 - 1) 6) ≤ v3 → (p_X8_at 6 12 v3 σ ∧ (p_X8_at 6 13 v3 σ ∧ (p_X6_sameWords (f_X8_at 6 12 v3 σ) (f_X8_at 6 13 v3 σ) v1 v2 N σ ∧ ((f_X6_sameWords (f_X8_at 6 12 v3 σ) (f_X8_at 6 13 v3 σ) v1 v2 N σ) = 0 → q_X3_functionNamed N n v1 v2 (v3 + 1) σ)))))
set_option maxRecDepth 100000 in
set_option maxHeartbeats 1000000 in
theorem w_X3_functionNamed {nx : Nat} (N : Nat) : ∀ n : Nat, (∀ (v1 : Int32) (v2 : Int32) (v3 : Int32) (σ : zS), q_X3_functionNamed N n v1 v2 v3 σ → zWp 3 zall nx 39 (fun v σ1 => v = some (.inl (l_X3_functionNamed N n v1 v2 v3 σ)) ∧ σ1 = σ) zall nx 2 [some (.inr (3, 12, 2)), some (.inl v1), some (.inl v2), some (.inl v3)] [] σ) := by
  intro n
  induction n with
  | zero => exact fun _ _ _ _ h => h.elim
  | succ n ih =>
    intro v1 v2 v3 σ hp
    rw [q_X3_functionNamed] at hp
    refine zvc_sound (cd := kX3_functionNamed) (cs := [2]) rfl okX3_functionNamed 1000 _ _ 2 (zseek kX3_functionNamed 2) _ _ _ zseek_sub ?_
    refine And.intro hp.1.1 (fun q901 (e1 : σ.2 2 1 = q901 + 1) => ?_)
    have g1 : q901 = (σ.2 2 1 - 1) := by omega
    subst g1
    rw [hp.1.2]
    refine And.intro (fun (h2 : (σ.1 (σ.2 2 1 - 1) 6) ≤ v3) => ?_) (fun (h2 : ¬ (σ.1 (σ.2 2 1 - 1) 6) ≤ v3) => ?_)
    · exact And.intro rfl (And.intro rfl ⟨by rw [l_X3_functionNamed, if_pos h2] <;> rfl, rfl⟩)
    · refine zCl.use (c_X8_at 6 12 v3 σ (hp.2 h2).1) (Nat.le_of_ble_eq_true rfl) ?_
      rintro _ σz ⟨rfl, hz⟩
      subst σz
      refine zCl.use (c_X8_at 6 13 v3 σ (hp.2 h2).2.1) (Nat.le_of_ble_eq_true rfl) ?_
      rintro _ σz ⟨rfl, hz⟩
      subst σz
      refine zCl.use (c_X6_sameWords (f_X8_at 6 12 v3 σ) (f_X8_at 6 13 v3 σ) v1 v2 N σ (hp.2 h2).2.2.1) (Nat.le_of_ble_eq_true rfl) ?_
      rintro _ σz ⟨rfl, hz⟩
      subst σz
      refine And.intro (fun (h3 : (f_X6_sameWords (f_X8_at 6 12 v3 σ) (f_X8_at 6 13 v3 σ) v1 v2 N σ) = 0) => ?_) (fun (h3 : ¬ (f_X6_sameWords (f_X8_at 6 12 v3 σ) (f_X8_at 6 13 v3 σ) v1 v2 N σ) = 0) => ?_)
      · refine zWp.use (ih v1 v2 (v3 + 1) σ ((hp.2 h2).2.2.2 h3)) (And.intro rfl (And.intro rfl (And.intro rfl (And.intro rfl trivial)))) (fun vy σy hy => ?_)
        rw [l_X3_functionNamed, if_neg h2, if_pos h3]; exact hy
      · exact And.intro rfl (And.intro rfl ⟨by rw [l_X3_functionNamed, if_neg h2, if_neg h3] <;> rfl, rfl⟩)
def f_X3_functionNamed (x1 : Int32) (x2 : Int32) (N : Nat) (σ : zS) : Int32 := l_X3_functionNamed N N x1 x2 0 σ
def p_X3_functionNamed (x1 : Int32) (x2 : Int32) (N : Nat) (σ : zS) : Prop := q_X3_functionNamed N N x1 x2 0 σ
set_option maxRecDepth 100000 in
set_option maxHeartbeats 1000000 in
theorem c_X3_functionNamed {nx : Nat} (x1 : Int32) (x2 : Int32) (N : Nat) (σ : zS) (hp : p_X3_functionNamed x1 x2 N σ) : zCl 3 zall nx zall nx 39 [.inr (3, 12, 2), .inl x1, .inl x2] σ (fun v σ1 => v = some (.inl (f_X3_functionNamed x1 x2 N σ)) ∧ σ1 = σ) := by
  refine zmeth (cd := kX3_functionNamed) [2] 1000 (Nat.le_of_ble_eq_true rfl) rfl okX3_functionNamed (Nat.le_refl _) (Nat.le_of_ble_eq_true rfl) ?_
  refine zWp.use ((w_X3_functionNamed N N) x1 x2 0 σ hp) (And.intro rfl (And.intro rfl (And.intro rfl (And.intro rfl trivial)))) (fun vy σy hy => ?_)
  rw [f_X3_functionNamed]; exact hy
def l_X3_parameterNamed (N : Nat) : Nat → Int32 → Int32 → Int32 → zS → Int32
  | 0, _, _, _, σ => 0
  | n + 1, v1, v2, v3, σ => if (σ.1 2 7) ≤ v3 then (-1) else (if (f_X6_sameWords (f_X8_at 4 14 v3 σ) (f_X8_at 4 15 v3 σ) v1 v2 N σ) = 0 then (l_X3_parameterNamed N n v1 v2 (v3 + 1) σ) else v3)
def q_X3_parameterNamed (N : Nat) : Nat → Int32 → Int32 → Int32 → zS → Prop
  | 0, _, _, _, _ => False
  | n + 1, v1, v2, v3, σ => ¬ (σ.1 2 7) ≤ v3 → (p_X8_at 4 14 v3 σ ∧ (p_X8_at 4 15 v3 σ ∧ (p_X6_sameWords (f_X8_at 4 14 v3 σ) (f_X8_at 4 15 v3 σ) v1 v2 N σ ∧ ((f_X6_sameWords (f_X8_at 4 14 v3 σ) (f_X8_at 4 15 v3 σ) v1 v2 N σ) = 0 → q_X3_parameterNamed N n v1 v2 (v3 + 1) σ))))
set_option maxRecDepth 100000 in
set_option maxHeartbeats 1000000 in
theorem w_X3_parameterNamed {nx : Nat} (N : Nat) : ∀ n : Nat, (∀ (v1 : Int32) (v2 : Int32) (v3 : Int32) (σ : zS), q_X3_parameterNamed N n v1 v2 v3 σ → zWp 3 zall nx 40 (fun v σ1 => v = some (.inl (l_X3_parameterNamed N n v1 v2 v3 σ)) ∧ σ1 = σ) zall nx 2 [some (.inr (3, 12, 2)), some (.inl v1), some (.inl v2), some (.inl v3)] [] σ) := by
  intro n
  induction n with
  | zero => exact fun _ _ _ _ h => h.elim
  | succ n ih =>
    intro v1 v2 v3 σ hp
    rw [q_X3_parameterNamed] at hp
    refine zvc_sound (cd := kX3_parameterNamed) (cs := [2]) rfl okX3_parameterNamed 1000 _ _ 2 (zseek kX3_parameterNamed 2) _ _ _ zseek_sub ?_
    refine And.intro (fun (h1 : (σ.1 2 7) ≤ v3) => ?_) (fun (h1 : ¬ (σ.1 2 7) ≤ v3) => ?_)
    · exact And.intro rfl (And.intro rfl ⟨by rw [l_X3_parameterNamed, if_pos h1] <;> rfl, rfl⟩)
    · refine zCl.use (c_X8_at 4 14 v3 σ (hp h1).1) (Nat.le_of_ble_eq_true rfl) ?_
      rintro _ σz ⟨rfl, hz⟩
      subst σz
      refine zCl.use (c_X8_at 4 15 v3 σ (hp h1).2.1) (Nat.le_of_ble_eq_true rfl) ?_
      rintro _ σz ⟨rfl, hz⟩
      subst σz
      refine zCl.use (c_X6_sameWords (f_X8_at 4 14 v3 σ) (f_X8_at 4 15 v3 σ) v1 v2 N σ (hp h1).2.2.1) (Nat.le_of_ble_eq_true rfl) ?_
      rintro _ σz ⟨rfl, hz⟩
      subst σz
      refine And.intro (fun (h2 : (f_X6_sameWords (f_X8_at 4 14 v3 σ) (f_X8_at 4 15 v3 σ) v1 v2 N σ) = 0) => ?_) (fun (h2 : ¬ (f_X6_sameWords (f_X8_at 4 14 v3 σ) (f_X8_at 4 15 v3 σ) v1 v2 N σ) = 0) => ?_)
      · refine zWp.use (ih v1 v2 (v3 + 1) σ ((hp h1).2.2.2 h2)) (And.intro rfl (And.intro rfl (And.intro rfl (And.intro rfl trivial)))) (fun vy σy hy => ?_)
        rw [l_X3_parameterNamed, if_neg h1, if_pos h2]; exact hy
      · exact And.intro rfl (And.intro rfl ⟨by rw [l_X3_parameterNamed, if_neg h1, if_neg h2] <;> rfl, rfl⟩)
def f_X3_parameterNamed (x1 : Int32) (x2 : Int32) (N : Nat) (σ : zS) : Int32 := l_X3_parameterNamed N N x1 x2 0 σ
def p_X3_parameterNamed (x1 : Int32) (x2 : Int32) (N : Nat) (σ : zS) : Prop := q_X3_parameterNamed N N x1 x2 0 σ
set_option maxRecDepth 100000 in
set_option maxHeartbeats 1000000 in
theorem c_X3_parameterNamed {nx : Nat} (x1 : Int32) (x2 : Int32) (N : Nat) (σ : zS) (hp : p_X3_parameterNamed x1 x2 N σ) : zCl 3 zall nx zall nx 40 [.inr (3, 12, 2), .inl x1, .inl x2] σ (fun v σ1 => v = some (.inl (f_X3_parameterNamed x1 x2 N σ)) ∧ σ1 = σ) := by
  refine zmeth (cd := kX3_parameterNamed) [2] 1000 (Nat.le_of_ble_eq_true rfl) rfl okX3_parameterNamed (Nat.le_refl _) (Nat.le_of_ble_eq_true rfl) ?_
  refine zWp.use ((w_X3_parameterNamed N N) x1 x2 0 σ hp) (And.intro rfl (And.intro rfl (And.intro rfl (And.intro rfl trivial)))) (fun vy σy hy => ?_)
  rw [f_X3_parameterNamed]; exact hy
def u_X4_startAnew_h0_1 (o : Nat) (q1 : Nat) (N : Nat) (v2 : Int32) (σ : zS) : zS := s_X5_clear (σ.2 (o + 4) (v2).toNatClampNeg - 1) σ
def l_X4_startAnew (o : Nat) (q1 : Nat) (N : Nat) : Nat → Int32 → zS → zS
  | 0, _, σ => σ
  | n + 1, v2, σ => if 4 ≤ v2 then σ else (l_X4_startAnew o q1 N n (v2 + 1) (u_X4_startAnew_h0_1 o q1 N v2 σ))
def q_X4_startAnew (o : Nat) (q1 : Nat) (N : Nat) : Nat → Int32 → zS → Prop
  | 0, _, _ => False
  | n + 1, v2, σ => ¬ 4 ≤ v2 → (vp_in v2 4 ∧ ((σ.2 (o + 4) (v2).toNatClampNeg ≠ 0 ∧ zlay (σ.2 (o + 4) (v2).toNatClampNeg - 1) = (5, 12)) ∧ q_X4_startAnew o q1 N n (v2 + 1) (u_X4_startAnew_h0_1 o q1 N v2 σ)))
set_option maxRecDepth 100000 in
set_option maxHeartbeats 1000000 in
theorem w_X4_startAnew {nx : Nat} (o : Nat) (q1 : Nat) (N : Nat) : ∀ n : Nat, (∀ (v2 : Int32) (σ : zS), q_X4_startAnew o q1 N n v2 σ → zWp 3 zall nx 51 (fun v σ1 => v = none ∧ σ1 = l_X4_startAnew o q1 N n v2 σ) zall nx 115 [some (.inr (4, 17, o)), some (.inr (2, 16, q1)), some (.inl v2)] [] σ) := by
  intro n
  induction n with
  | zero => exact fun _ _ h => h.elim
  | succ n ih =>
    intro v2 σ hp
    rw [q_X4_startAnew] at hp
    refine zvc_sound (cd := kX4_startAnew) (cs := [115]) rfl okX4_startAnew 1000 _ _ 115 (zseek kX4_startAnew 115) _ _ _ zseek_sub ?_
    refine And.intro (fun (h1 : 4 ≤ v2) => ?_) (fun (h1 : ¬ 4 ≤ v2) => ?_)
    · exact And.intro rfl (And.intro rfl ⟨rfl, by rw [l_X4_startAnew, if_pos h1] <;> rfl⟩)
    · refine And.intro (hp h1).1 ?_
      refine And.intro (hp h1).2.1.1 (fun q902 (e2 : σ.2 (o + 4) (v2).toNatClampNeg = q902 + 1) => ?_)
      have g2 : q902 = (σ.2 (o + 4) (v2).toNatClampNeg - 1) := by omega
      subst g2
      rw [(hp h1).2.1.2]
      refine zCl.use (c_X5_clear (σ.2 (o + 4) (v2).toNatClampNeg - 1) σ) (Nat.le_of_ble_eq_true rfl) ?_
      rintro _ σz ⟨rfl, hz⟩
      subst σz
      refine zWp.use (ih (v2 + 1) (u_X4_startAnew_h0_1 o q1 N v2 σ) (hp h1).2.2) (And.intro rfl (And.intro rfl (And.intro rfl trivial))) (fun vy σy hy => ?_)
      rw [l_X4_startAnew, if_neg h1]; exact hy
def u_X4_startAnew_1 (o : Nat) (q1 : Nat) (N : Nat) (σ : zS) : zS := zuI σ o 0 (σ.1 q1 0)
def u_X4_startAnew_2 (o : Nat) (q1 : Nat) (N : Nat) (σ : zS) : zS := zuI (u_X4_startAnew_1 o q1 N σ) o 1 ((u_X4_startAnew_1 o q1 N σ).1 q1 7)
def u_X4_startAnew_3 (o : Nat) (q1 : Nat) (N : Nat) (σ : zS) : zS := zuI (u_X4_startAnew_2 o q1 N σ) o 2 ((u_X4_startAnew_2 o q1 N σ).1 q1 1)
def u_X4_startAnew_4 (o : Nat) (q1 : Nat) (N : Nat) (σ : zS) : zS := zuI (u_X4_startAnew_3 o q1 N σ) o 3 ((u_X4_startAnew_3 o q1 N σ).1 q1 2)
def u_X4_startAnew_5 (o : Nat) (q1 : Nat) (N : Nat) (σ : zS) : zS := zuI (u_X4_startAnew_4 o q1 N σ) o 4 ((u_X4_startAnew_4 o q1 N σ).1 q1 4)
def u_X4_startAnew_6 (o : Nat) (q1 : Nat) (N : Nat) (σ : zS) : zS := zuI (u_X4_startAnew_5 o q1 N σ) o 5 ((u_X4_startAnew_5 o q1 N σ).1 q1 5)
def u_X4_startAnew_7 (o : Nat) (q1 : Nat) (N : Nat) (σ : zS) : zS := zuI (u_X4_startAnew_6 o q1 N σ) o 6 ((u_X4_startAnew_6 o q1 N σ).1 q1 3)
def u_X4_startAnew_8 (o : Nat) (q1 : Nat) (N : Nat) (σ : zS) : zS := zuI (u_X4_startAnew_7 o q1 N σ) o 7 (-1)
def u_X4_startAnew_9 (o : Nat) (q1 : Nat) (N : Nat) (σ : zS) : zS := zuI (u_X4_startAnew_8 o q1 N σ) o 8 0
def u_X4_startAnew_10 (o : Nat) (q1 : Nat) (N : Nat) (σ : zS) : zS := zuI (u_X4_startAnew_9 o q1 N σ) o 9 0
def u_X4_startAnew_11 (o : Nat) (q1 : Nat) (N : Nat) (σ : zS) : zS := zuI (u_X4_startAnew_10 o q1 N σ) o 10 0
def u_X4_startAnew_12 (o : Nat) (q1 : Nat) (N : Nat) (σ : zS) : zS := zuI (u_X4_startAnew_11 o q1 N σ) o 11 0
def u_X4_startAnew_13 (o : Nat) (q1 : Nat) (N : Nat) (σ : zS) : zS := zuI (u_X4_startAnew_12 o q1 N σ) o 12 (-1)
def u_X4_startAnew_14 (o : Nat) (q1 : Nat) (N : Nat) (σ : zS) : zS := s_J7_fill_53178 12 (o + 1) (-1) N (u_X4_startAnew_13 o q1 N σ)
def u_X4_startAnew_15 (o : Nat) (q1 : Nat) (N : Nat) (σ : zS) : zS := s_J7_fill_53178 12 (o + 2) (-1) N (u_X4_startAnew_14 o q1 N σ)
def u_X4_startAnew_16 (o : Nat) (q1 : Nat) (N : Nat) (σ : zS) : zS := zuI (u_X4_startAnew_7 o q1 N σ) o 7 0
def u_X4_startAnew_17 (o : Nat) (q1 : Nat) (N : Nat) (σ : zS) : zS := zuI (u_X4_startAnew_16 o q1 N σ) o 8 0
def u_X4_startAnew_18 (o : Nat) (q1 : Nat) (N : Nat) (σ : zS) : zS := zuI (u_X4_startAnew_17 o q1 N σ) o 9 0
def u_X4_startAnew_19 (o : Nat) (q1 : Nat) (N : Nat) (σ : zS) : zS := zuI (u_X4_startAnew_18 o q1 N σ) o 10 0
def u_X4_startAnew_20 (o : Nat) (q1 : Nat) (N : Nat) (σ : zS) : zS := zuI (u_X4_startAnew_19 o q1 N σ) o 11 0
def u_X4_startAnew_21 (o : Nat) (q1 : Nat) (N : Nat) (σ : zS) : zS := zuI (u_X4_startAnew_20 o q1 N σ) o 12 (-1)
def u_X4_startAnew_22 (o : Nat) (q1 : Nat) (N : Nat) (σ : zS) : zS := s_J7_fill_53178 12 (o + 1) (-1) N (u_X4_startAnew_21 o q1 N σ)
def u_X4_startAnew_23 (o : Nat) (q1 : Nat) (N : Nat) (σ : zS) : zS := s_J7_fill_53178 12 (o + 2) (-1) N (u_X4_startAnew_22 o q1 N σ)
def s_X4_startAnew (o : Nat) (q1 : Nat) (N : Nat) (σ : zS) : zS := if ((u_X4_startAnew_7 o q1 N σ).1 o 1) ≤ 0 then (l_X4_startAnew o q1 N N 0 (u_X4_startAnew_15 o q1 N σ)) else (l_X4_startAnew o q1 N N 0 (u_X4_startAnew_23 o q1 N σ))
def p_X4_startAnew (o : Nat) (q1 : Nat) (N : Nat) (σ : zS) : Prop := (((u_X4_startAnew_7 o q1 N σ).1 o 1) ≤ 0 → (p_J7_fill_53178 12 (o + 1) (-1) N (u_X4_startAnew_13 o q1 N σ) ∧ (p_J7_fill_53178 12 (o + 2) (-1) N (u_X4_startAnew_14 o q1 N σ) ∧ q_X4_startAnew o q1 N N 0 (u_X4_startAnew_15 o q1 N σ)))) ∧ (¬ ((u_X4_startAnew_7 o q1 N σ).1 o 1) ≤ 0 → (p_J7_fill_53178 12 (o + 1) (-1) N (u_X4_startAnew_21 o q1 N σ) ∧ (p_J7_fill_53178 12 (o + 2) (-1) N (u_X4_startAnew_22 o q1 N σ) ∧ q_X4_startAnew o q1 N N 0 (u_X4_startAnew_23 o q1 N σ))))
set_option maxRecDepth 100000 in
set_option maxHeartbeats 1000000 in
theorem c_X4_startAnew {nx : Nat} (o : Nat) (q1 : Nat) (N : Nat) (σ : zS) (hp : p_X4_startAnew o q1 N σ) : zCl 3 zall nx zall nx 51 [.inr (4, 17, o), .inr (2, 16, q1)] σ (fun v σ1 => v = none ∧ σ1 = s_X4_startAnew o q1 N σ) := by
  refine zmeth (cd := kX4_startAnew) [115] 1000 (Nat.le_of_ble_eq_true rfl) rfl okX4_startAnew (Nat.le_refl _) (Nat.le_of_ble_eq_true rfl) ?_
  refine And.intro (fun (h1 : ((u_X4_startAnew_7 o q1 N σ).1 o 1) ≤ 0) => ?_) (fun (h1 : ¬ ((u_X4_startAnew_7 o q1 N σ).1 o 1) ≤ 0) => ?_)
  · refine zCl.use (c_J7_fill_53178 12 (o + 1) (-1) N (u_X4_startAnew_13 o q1 N σ) (hp.1 h1).1) (Nat.le_of_ble_eq_true rfl) ?_
    rintro _ σz ⟨rfl, hz⟩
    subst σz
    refine zCl.use (c_J7_fill_53178 12 (o + 2) (-1) N (u_X4_startAnew_14 o q1 N σ) (hp.1 h1).2.1) (Nat.le_of_ble_eq_true rfl) ?_
    rintro _ σz ⟨rfl, hz⟩
    subst σz
    refine zWp.use ((w_X4_startAnew o q1 N N) 0 (u_X4_startAnew_15 o q1 N σ) (hp.1 h1).2.2) (And.intro rfl (And.intro rfl (And.intro rfl trivial))) (fun vy σy hy => ?_)
    rw [s_X4_startAnew, if_pos h1]; exact hy
  · refine zCl.use (c_J7_fill_53178 12 (o + 1) (-1) N (u_X4_startAnew_21 o q1 N σ) (hp.2 h1).1) (Nat.le_of_ble_eq_true rfl) ?_
    rintro _ σz ⟨rfl, hz⟩
    subst σz
    refine zCl.use (c_J7_fill_53178 12 (o + 2) (-1) N (u_X4_startAnew_22 o q1 N σ) (hp.2 h1).2.1) (Nat.le_of_ble_eq_true rfl) ?_
    rintro _ σz ⟨rfl, hz⟩
    subst σz
    refine zWp.use ((w_X4_startAnew o q1 N N) 0 (u_X4_startAnew_23 o q1 N σ) (hp.2 h1).2.2) (And.intro rfl (And.intro rfl (And.intro rfl trivial))) (fun vy σy hy => ?_)
    rw [s_X4_startAnew, if_neg h1]; exact hy
def f_X4_fact (o : Nat) (x1 : Int32) (N : Nat) (σ : zS) : Int32 := if x1 = 3 then (σ.1 o 9) else (if x1 = 4 then (σ.1 o 10) else (if x1 = 5 then (σ.1 o 11) else (if x1 = 6 then (f_X4_cost o σ) else (if x1 = 7 then (σ.1 o 7) else (if x1 = 8 then (σ.1 o 8) else (if x1 = 9 then (σ.1 o 6) else (if x1 = 10 then (σ.1 o 2) else (if x1 = 11 then (σ.1 o 3) else (if x1 = 12 then (σ.1 o 12) else (if x1 = 13 then (f_X4_freeWindows o N σ) else (-1)))))))))))
def p_X4_fact (o : Nat) (x1 : Int32) (N : Nat) (σ : zS) : Prop := ¬ x1 = 3 → (¬ x1 = 4 → (¬ x1 = 5 → (¬ x1 = 6 → (¬ x1 = 7 → (¬ x1 = 8 → (¬ x1 = 9 → (¬ x1 = 10 → (¬ x1 = 11 → (¬ x1 = 12 → (x1 = 13 → p_X4_freeWindows o N σ))))))))))
set_option maxRecDepth 100000 in
set_option maxHeartbeats 1000000 in
theorem c_X4_fact {nx : Nat} (o : Nat) (x1 : Int32) (N : Nat) (σ : zS) (hp : p_X4_fact o x1 N σ) : zCl 3 zall nx zall nx 56 [.inr (4, 17, o), .inl x1] σ (fun v σ1 => v = some (.inl (f_X4_fact o x1 N σ)) ∧ σ1 = σ) := by
  refine zmeth (cd := kX4_fact) [] 1000 (Nat.le_of_ble_eq_true rfl) rfl okX4_fact (Nat.le_refl _) (Nat.le_of_ble_eq_true rfl) ?_
  refine And.intro (fun (h1 : x1 = 3) => ?_) (fun (h1 : ¬ x1 = 3) => ?_)
  · exact And.intro rfl (And.intro rfl ⟨by rw [f_X4_fact, if_pos h1] <;> rfl, rfl⟩)
  · refine And.intro (fun (h2 : x1 = 4) => ?_) (fun (h2 : ¬ x1 = 4) => ?_)
    · exact And.intro rfl (And.intro rfl ⟨by rw [f_X4_fact, if_neg h1, if_pos h2] <;> rfl, rfl⟩)
    · refine And.intro (fun (h3 : x1 = 5) => ?_) (fun (h3 : ¬ x1 = 5) => ?_)
      · exact And.intro rfl (And.intro rfl ⟨by rw [f_X4_fact, if_neg h1, if_neg h2, if_pos h3] <;> rfl, rfl⟩)
      · refine And.intro (fun (h4 : x1 = 6) => ?_) (fun (h4 : ¬ x1 = 6) => ?_)
        · refine zCl.use (c_X4_cost o σ) (Nat.le_of_ble_eq_true rfl) ?_
          rintro _ σz ⟨rfl, hz⟩
          subst σz
          exact And.intro rfl (And.intro rfl ⟨by rw [f_X4_fact, if_neg h1, if_neg h2, if_neg h3, if_pos h4] <;> rfl, rfl⟩)
        · refine And.intro (fun (h5 : x1 = 7) => ?_) (fun (h5 : ¬ x1 = 7) => ?_)
          · exact And.intro rfl (And.intro rfl ⟨by rw [f_X4_fact, if_neg h1, if_neg h2, if_neg h3, if_neg h4, if_pos h5] <;> rfl, rfl⟩)
          · refine And.intro (fun (h6 : x1 = 8) => ?_) (fun (h6 : ¬ x1 = 8) => ?_)
            · exact And.intro rfl (And.intro rfl ⟨by rw [f_X4_fact, if_neg h1, if_neg h2, if_neg h3, if_neg h4, if_neg h5, if_pos h6] <;> rfl, rfl⟩)
            · refine And.intro (fun (h7 : x1 = 9) => ?_) (fun (h7 : ¬ x1 = 9) => ?_)
              · exact And.intro rfl (And.intro rfl ⟨by rw [f_X4_fact, if_neg h1, if_neg h2, if_neg h3, if_neg h4, if_neg h5, if_neg h6, if_pos h7] <;> rfl, rfl⟩)
              · refine And.intro (fun (h8 : x1 = 10) => ?_) (fun (h8 : ¬ x1 = 10) => ?_)
                · exact And.intro rfl (And.intro rfl ⟨by rw [f_X4_fact, if_neg h1, if_neg h2, if_neg h3, if_neg h4, if_neg h5, if_neg h6, if_neg h7, if_pos h8] <;> rfl, rfl⟩)
                · refine And.intro (fun (h9 : x1 = 11) => ?_) (fun (h9 : ¬ x1 = 11) => ?_)
                  · exact And.intro rfl (And.intro rfl ⟨by rw [f_X4_fact, if_neg h1, if_neg h2, if_neg h3, if_neg h4, if_neg h5, if_neg h6, if_neg h7, if_neg h8, if_pos h9] <;> rfl, rfl⟩)
                  · refine And.intro (fun (h10 : x1 = 12) => ?_) (fun (h10 : ¬ x1 = 12) => ?_)
                    · exact And.intro rfl (And.intro rfl ⟨by rw [f_X4_fact, if_neg h1, if_neg h2, if_neg h3, if_neg h4, if_neg h5, if_neg h6, if_neg h7, if_neg h8, if_neg h9, if_pos h10] <;> rfl, rfl⟩)
                    · refine And.intro (fun (h11 : x1 = 13) => ?_) (fun (h11 : ¬ x1 = 13) => ?_)
                      · refine zCl.use (c_X4_freeWindows o N σ (((((((((((hp h1) h2) h3) h4) h5) h6) h7) h8) h9) h10) h11)) (Nat.le_of_ble_eq_true rfl) ?_
                        rintro _ σz ⟨rfl, hz⟩
                        subst σz
                        exact And.intro rfl (And.intro rfl ⟨by rw [f_X4_fact, if_neg h1, if_neg h2, if_neg h3, if_neg h4, if_neg h5, if_neg h6, if_neg h7, if_neg h8, if_neg h9, if_neg h10, if_pos h11] <;> rfl, rfl⟩)
                      · exact And.intro rfl (And.intro rfl ⟨by rw [f_X4_fact, if_neg h1, if_neg h2, if_neg h3, if_neg h4, if_neg h5, if_neg h6, if_neg h7, if_neg h8, if_neg h9, if_neg h10, if_neg h11] <;> rfl, rfl⟩)
def u_X4_restart_1 (o : Nat) (x1 : Int32) (σ : zS) : zS := s_X5_clear (f_X4_taskAt o x1 σ) σ
def u_X4_restart_2 (o : Nat) (x1 : Int32) (σ : zS) : zS := zuI (u_X4_restart_1 o x1 σ) o 7 x1
def u_X4_restart_3 (o : Nat) (x1 : Int32) (σ : zS) : zS := zuI (u_X4_restart_2 o x1 σ) o 8 0
def s_X4_restart (o : Nat) (x1 : Int32) (σ : zS) : zS := if ((u_X4_restart_1 o x1 σ).1 o 7) = (-1) then (u_X4_restart_3 o x1 σ) else (u_X4_restart_1 o x1 σ)
def p_X4_restart (o : Nat) (x1 : Int32) (σ : zS) : Prop := p_X4_taskAt o x1 σ
set_option maxRecDepth 100000 in
set_option maxHeartbeats 1000000 in
theorem c_X4_restart {nx : Nat} (o : Nat) (x1 : Int32) (σ : zS) (hp : p_X4_restart o x1 σ) : zCl 3 zall nx zall nx 58 [.inr (4, 17, o), .inl x1] σ (fun v σ1 => v = none ∧ σ1 = s_X4_restart o x1 σ) := by
  refine zmeth (cd := kX4_restart) [] 1000 (Nat.le_of_ble_eq_true rfl) rfl okX4_restart (Nat.le_refl _) (Nat.le_of_ble_eq_true rfl) ?_
  refine zCl.use (c_X4_taskAt o x1 σ hp) (Nat.le_of_ble_eq_true rfl) ?_
  rintro _ σz ⟨rfl, hz⟩
  subst σz
  refine zCl.use (c_X5_clear (f_X4_taskAt o x1 σ) σ) (Nat.le_of_ble_eq_true rfl) ?_
  rintro _ σz ⟨rfl, hz⟩
  subst σz
  refine And.intro (fun (h1 : ¬ ((u_X4_restart_1 o x1 σ).1 o 7) = (-1)) => ?_) (fun (h1 : ((u_X4_restart_1 o x1 σ).1 o 7) = (-1)) => ?_)
  · exact And.intro rfl (And.intro rfl ⟨rfl, by rw [s_X4_restart, if_neg h1] <;> rfl⟩)
  · exact And.intro rfl (And.intro rfl ⟨rfl, by rw [s_X4_restart, if_pos h1] <;> rfl⟩)
def u_X4_fail_h0_1 (o : Nat) (N : Nat) (v1 : Int32) (v2 : Int32) (v3 : Int32) (σ : zS) : zS := s_X0_clear ((f_X4_taskAt o v1 σ) + 1) σ
def u_X4_fail_h0_2 (o : Nat) (N : Nat) (v1 : Int32) (v2 : Int32) (v3 : Int32) (σ : zS) : zS := zuI (u_X4_fail_h0_1 o N v1 v2 v3 σ) (f_X4_taskAt o v1 σ) 1 3
def u_X4_fail_h0_3 (o : Nat) (N : Nat) (v1 : Int32) (v2 : Int32) (v3 : Int32) (σ : zS) : zS := s_X4_moveOut o v1 v3 σ
def l_X4_fail (o : Nat) (N : Nat) : Nat → Int32 → Int32 → Int32 → zS → Int32 × zS
  | 0, _, _, _, σ => (0, σ)
  | n + 1, v1, v2, v3, σ => if (σ.1 o 0) ≤ v3 then (v2, (u_X4_fail_h0_2 o N v1 v2 v3 σ)) else (if (f_X8_at 12 (o + 1) v3 σ) = v1 then (l_X4_fail o N n v1 v2 (v3 + 1) (u_X4_fail_h0_3 o N v1 v2 v3 σ)) else (l_X4_fail o N n v1 v2 (v3 + 1) σ))
def q_X4_fail (o : Nat) (N : Nat) : Nat → Int32 → Int32 → Int32 → zS → Prop
  | 0, _, _, _, _ => False
  | n + 1, v1, v2, v3, σ => ((σ.1 o 0) ≤ v3 → p_X4_taskAt o v1 σ) ∧ (¬ (σ.1 o 0) ≤ v3 → (p_X8_at 12 (o + 1) v3 σ ∧ ((¬ (f_X8_at 12 (o + 1) v3 σ) = v1 → q_X4_fail o N n v1 v2 (v3 + 1) σ) ∧ ((f_X8_at 12 (o + 1) v3 σ) = v1 → (p_X4_moveOut o v1 v3 σ ∧ q_X4_fail o N n v1 v2 (v3 + 1) (u_X4_fail_h0_3 o N v1 v2 v3 σ))))))
set_option maxRecDepth 100000 in
set_option maxHeartbeats 1000000 in
theorem w_X4_fail {nx : Nat} (o : Nat) (N : Nat) : ∀ n : Nat, (∀ (v1 : Int32) (v2 : Int32) (v3 : Int32) (σ : zS), q_X4_fail o N n v1 v2 v3 σ → zWp 3 zall nx 75 (fun v σ1 => v = some (.inl ((l_X4_fail o N n v1 v2 v3 σ).1)) ∧ σ1 = (l_X4_fail o N n v1 v2 v3 σ).2) zall nx 2 [some (.inr (4, 17, o)), some (.inl v1), some (.inl v2), some (.inl v3)] [] σ) := by
  intro n
  induction n with
  | zero => exact fun _ _ _ _ h => h.elim
  | succ n ih =>
    intro v1 v2 v3 σ hp
    rw [q_X4_fail] at hp
    refine zvc_sound (cd := kX4_fail) (cs := [2]) rfl okX4_fail 1000 _ _ 2 (zseek kX4_fail 2) _ _ _ zseek_sub ?_
    refine And.intro (fun (h1 : (σ.1 o 0) ≤ v3) => ?_) (fun (h1 : ¬ (σ.1 o 0) ≤ v3) => ?_)
    · refine zCl.use (c_X4_taskAt o v1 σ (hp.1 h1)) (Nat.le_of_ble_eq_true rfl) ?_
      rintro _ σz ⟨rfl, hz⟩
      subst σz
      refine zCl.use (c_X0_clear ((f_X4_taskAt o v1 σ) + 1) σ) (Nat.le_of_ble_eq_true rfl) ?_
      rintro _ σz ⟨rfl, hz⟩
      subst σz
      exact And.intro rfl (And.intro rfl ⟨by rw [l_X4_fail, if_pos h1] <;> rfl, by rw [l_X4_fail, if_pos h1] <;> rfl⟩)
    · refine zCl.use (c_X8_at 12 (o + 1) v3 σ (hp.2 h1).1) (Nat.le_of_ble_eq_true rfl) ?_
      rintro _ σz ⟨rfl, hz⟩
      subst σz
      refine And.intro (fun (h2 : ¬ (f_X8_at 12 (o + 1) v3 σ) = v1) => ?_) (fun (h2 : (f_X8_at 12 (o + 1) v3 σ) = v1) => ?_)
      · refine zWp.use (ih v1 v2 (v3 + 1) σ ((hp.2 h1).2.1 h2)) (And.intro rfl (And.intro rfl (And.intro rfl (And.intro rfl trivial)))) (fun vy σy hy => ?_)
        rw [l_X4_fail, if_neg h1, if_neg h2]; exact hy
      · refine zCl.use (c_X4_moveOut o v1 v3 σ ((hp.2 h1).2.2 h2).1) (Nat.le_of_ble_eq_true rfl) ?_
        rintro _ σz ⟨rfl, hz⟩
        subst σz
        refine zWp.use (ih v1 v2 (v3 + 1) (u_X4_fail_h0_3 o N v1 v2 v3 σ) ((hp.2 h1).2.2 h2).2) (And.intro rfl (And.intro rfl (And.intro rfl (And.intro rfl trivial)))) (fun vy σy hy => ?_)
        rw [l_X4_fail, if_neg h1, if_pos h2]; exact hy
def r_X4_fail (o : Nat) (x1 : Int32) (x2 : Int32) (N : Nat) (σ : zS) : Int32 × zS := l_X4_fail o N N x1 x2 0 σ
def p_X4_fail (o : Nat) (x1 : Int32) (x2 : Int32) (N : Nat) (σ : zS) : Prop := q_X4_fail o N N x1 x2 0 σ
set_option maxRecDepth 100000 in
set_option maxHeartbeats 1000000 in
theorem c_X4_fail {nx : Nat} (o : Nat) (x1 : Int32) (x2 : Int32) (N : Nat) (σ : zS) (hp : p_X4_fail o x1 x2 N σ) : zCl 3 zall nx zall nx 75 [.inr (4, 17, o), .inl x1, .inl x2] σ (fun v σ1 => v = some (.inl ((r_X4_fail o x1 x2 N σ).1)) ∧ σ1 = (r_X4_fail o x1 x2 N σ).2) := by
  refine zmeth (cd := kX4_fail) [2] 1000 (Nat.le_of_ble_eq_true rfl) rfl okX4_fail (Nat.le_refl _) (Nat.le_of_ble_eq_true rfl) ?_
  refine zWp.use ((w_X4_fail o N N) x1 x2 0 σ hp) (And.intro rfl (And.intro rfl (And.intro rfl (And.intro rfl trivial)))) (fun vy σy hy => ?_)
  rw [r_X4_fail]; exact hy
def u_X4_makeRoom_h0_1 (o : Nat) (N : Nat) (v1 : Int32) (v2 : Int32) (v3 : Int32) (v4 : Int32) (a5 : Nat) (v6 : Int32) (v7 : Int32) (σ : zS) : zS := zuI σ a5 10 ((σ.1 a5 10) + v6)
def u_X4_makeRoom_h0_2 (o : Nat) (N : Nat) (v1 : Int32) (v2 : Int32) (v3 : Int32) (v4 : Int32) (a5 : Nat) (v6 : Int32) (v7 : Int32) (σ : zS) : zS := zuI (u_X4_makeRoom_h0_1 o N v1 v2 v3 v4 a5 v6 v7 σ) (f_X4_taskAt o v1 (u_X4_makeRoom_h0_1 o N v1 v2 v3 v4 a5 v6 v7 σ)) 8 (((u_X4_makeRoom_h0_1 o N v1 v2 v3 v4 a5 v6 v7 σ).1 (f_X4_taskAt o v1 (u_X4_makeRoom_h0_1 o N v1 v2 v3 v4 a5 v6 v7 σ)) 8) + 1)
def u_X4_makeRoom_h0_3 (o : Nat) (N : Nat) (v1 : Int32) (v2 : Int32) (v3 : Int32) (v4 : Int32) (a5 : Nat) (v6 : Int32) (v7 : Int32) (σ : zS) : zS := s_X4_noteTrap o 0 v1 v6 v3 (u_X4_makeRoom_h0_2 o N v1 v2 v3 v4 a5 v6 v7 σ)
def u_X4_makeRoom_h0_4 (o : Nat) (N : Nat) (v1 : Int32) (v2 : Int32) (v3 : Int32) (v4 : Int32) (a5 : Nat) (v6 : Int32) (v7 : Int32) (σ : zS) : zS := s_X4_moveOut o v3 (f_X4_windowOf o v3 (((σ.1 (a5 + 1) 0) - (σ.1 a5 2)) + 1) σ) σ
def l_X4_makeRoom (o : Nat) (N : Nat) : Nat → Int32 → Int32 → Int32 → Int32 → Nat → Int32 → Int32 → zS → zS
  | 0, _, _, _, _, _, _, _, σ => σ
  | n + 1, v1, v2, v3, v4, a5, v6, v7, σ => if v6 ≤ v7 then (u_X4_makeRoom_h0_3 o N v1 v2 v3 v4 a5 v6 v7 σ) else (l_X4_makeRoom o N n v1 v2 v3 v4 a5 v6 (v7 + 1) (u_X4_makeRoom_h0_4 o N v1 v2 v3 v4 a5 v6 v7 σ))
def q_X4_makeRoom (o : Nat) (N : Nat) : Nat → Int32 → Int32 → Int32 → Int32 → Nat → Int32 → Int32 → zS → Prop
  | 0, _, _, _, _, _, _, _, _ => False
  | n + 1, v1, v2, v3, v4, a5, v6, v7, σ => (v6 ≤ v7 → (p_X4_taskAt o v1 (u_X4_makeRoom_h0_1 o N v1 v2 v3 v4 a5 v6 v7 σ) ∧ p_X4_noteTrap o 0 v1 v6 v3 (u_X4_makeRoom_h0_2 o N v1 v2 v3 v4 a5 v6 v7 σ))) ∧ (¬ v6 ≤ v7 → (p_X4_windowOf o v3 (((σ.1 (a5 + 1) 0) - (σ.1 a5 2)) + 1) σ ∧ (p_X4_moveOut o v3 (f_X4_windowOf o v3 (((σ.1 (a5 + 1) 0) - (σ.1 a5 2)) + 1) σ) σ ∧ q_X4_makeRoom o N n v1 v2 v3 v4 a5 v6 (v7 + 1) (u_X4_makeRoom_h0_4 o N v1 v2 v3 v4 a5 v6 v7 σ))))
set_option maxRecDepth 100000 in
set_option maxHeartbeats 1000000 in
theorem w_X4_makeRoom {nx : Nat} (o : Nat) (N : Nat) : ∀ n : Nat, (∀ (v1 : Int32) (v2 : Int32) (v3 : Int32) (v4 : Int32) (a5 : Nat) (v6 : Int32) (v7 : Int32) (σ : zS), q_X4_makeRoom o N n v1 v2 v3 v4 a5 v6 v7 σ → zWp 3 zall nx 76 (fun v σ1 => v = none ∧ σ1 = l_X4_makeRoom o N n v1 v2 v3 v4 a5 v6 v7 σ) zall nx 70 [some (.inr (4, 17, o)), some (.inl v1), some (.inl v2), some (.inl v3), some (.inl v4), some (.inr (5, 12, a5)), some (.inl v6), some (.inl v7)] [] σ) := by
  intro n
  induction n with
  | zero => exact fun _ _ _ _ _ _ _ _ h => h.elim
  | succ n ih =>
    intro v1 v2 v3 v4 a5 v6 v7 σ hp
    rw [q_X4_makeRoom] at hp
    refine zvc_sound (cd := kX4_makeRoom) (cs := [70]) rfl okX4_makeRoom 1000 _ _ 70 (zseek kX4_makeRoom 70) _ _ _ zseek_sub ?_
    refine And.intro (fun (h1 : v6 ≤ v7) => ?_) (fun (h1 : ¬ v6 ≤ v7) => ?_)
    · refine zCl.use (c_X4_taskAt o v1 (u_X4_makeRoom_h0_1 o N v1 v2 v3 v4 a5 v6 v7 σ) (hp.1 h1).1) (Nat.le_of_ble_eq_true rfl) ?_
      rintro _ σz ⟨rfl, hz⟩
      subst σz
      refine zCl.use (c_X4_noteTrap o 0 v1 v6 v3 (u_X4_makeRoom_h0_2 o N v1 v2 v3 v4 a5 v6 v7 σ) (hp.1 h1).2) (Nat.le_of_ble_eq_true rfl) ?_
      rintro _ σz ⟨rfl, hz⟩
      subst σz
      exact And.intro rfl (And.intro rfl ⟨rfl, by rw [l_X4_makeRoom, if_pos h1] <;> rfl⟩)
    · refine zCl.use (c_X4_windowOf o v3 (((σ.1 (a5 + 1) 0) - (σ.1 a5 2)) + 1) σ (hp.2 h1).1) (Nat.le_of_ble_eq_true rfl) ?_
      rintro _ σz ⟨rfl, hz⟩
      subst σz
      refine zCl.use (c_X4_moveOut o v3 (f_X4_windowOf o v3 (((σ.1 (a5 + 1) 0) - (σ.1 a5 2)) + 1) σ) σ (hp.2 h1).2.1) (Nat.le_of_ble_eq_true rfl) ?_
      rintro _ σz ⟨rfl, hz⟩
      subst σz
      refine zWp.use (ih v1 v2 v3 v4 a5 v6 (v7 + 1) (u_X4_makeRoom_h0_4 o N v1 v2 v3 v4 a5 v6 v7 σ) (hp.2 h1).2.2) (And.intro rfl (And.intro rfl (And.intro rfl (And.intro rfl (And.intro rfl (And.intro rfl (And.intro rfl (And.intro rfl trivial)))))))) (fun vy σy hy => ?_)
      rw [l_X4_makeRoom, if_neg h1]; exact hy
def u_X4_makeRoom_1 (o : Nat) (x1 : Int32) (x2 : Int32) (N : Nat) (σ : zS) : zS := (r_X5_guessToSpill (f_X4_taskAt o x1 σ) (σ.1 o 2) (σ.1 o 3) σ).2
def s_X4_makeRoom (o : Nat) (x1 : Int32) (x2 : Int32) (N : Nat) (σ : zS) : zS := if (f_X8_at 12 (o + 1) x2 σ) = (-1) then σ else (if (f_X8_at 12 (o + 1) x2 σ) = x1 then (l_X4_makeRoom o N N x1 x2 (f_X8_at 12 (o + 1) x2 σ) ((r_X5_guessToSpill (f_X4_taskAt o x1 σ) (σ.1 o 2) (σ.1 o 3) σ).1) (f_X4_taskAt o (f_X8_at 12 (o + 1) x2 σ) (u_X4_makeRoom_1 o x1 x2 N σ)) (if (((u_X4_makeRoom_1 o x1 x2 N σ).1 (f_X4_taskAt o (f_X8_at 12 (o + 1) x2 σ) (u_X4_makeRoom_1 o x1 x2 N σ)) 2) - 1) < ((r_X5_guessToSpill (f_X4_taskAt o x1 σ) (σ.1 o 2) (σ.1 o 3) σ).1) then (((u_X4_makeRoom_1 o x1 x2 N σ).1 (f_X4_taskAt o (f_X8_at 12 (o + 1) x2 σ) (u_X4_makeRoom_1 o x1 x2 N σ)) 2) - 1) else ((r_X5_guessToSpill (f_X4_taskAt o x1 σ) (σ.1 o 2) (σ.1 o 3) σ).1)) 0 (u_X4_makeRoom_1 o x1 x2 N σ)) else (l_X4_makeRoom o N N x1 x2 (f_X8_at 12 (o + 1) x2 σ) ((r_X5_guessToSpill (f_X4_taskAt o x1 σ) (σ.1 o 2) (σ.1 o 3) σ).1) (f_X4_taskAt o (f_X8_at 12 (o + 1) x2 σ) (u_X4_makeRoom_1 o x1 x2 N σ)) (if ((u_X4_makeRoom_1 o x1 x2 N σ).1 (f_X4_taskAt o (f_X8_at 12 (o + 1) x2 σ) (u_X4_makeRoom_1 o x1 x2 N σ)) 2) < ((r_X5_guessToSpill (f_X4_taskAt o x1 σ) (σ.1 o 2) (σ.1 o 3) σ).1) then ((u_X4_makeRoom_1 o x1 x2 N σ).1 (f_X4_taskAt o (f_X8_at 12 (o + 1) x2 σ) (u_X4_makeRoom_1 o x1 x2 N σ)) 2) else ((r_X5_guessToSpill (f_X4_taskAt o x1 σ) (σ.1 o 2) (σ.1 o 3) σ).1)) 0 (u_X4_makeRoom_1 o x1 x2 N σ)))
def p_X4_makeRoom (o : Nat) (x1 : Int32) (x2 : Int32) (N : Nat) (σ : zS) : Prop := p_X8_at 12 (o + 1) x2 σ ∧ (¬ (f_X8_at 12 (o + 1) x2 σ) = (-1) → (p_X4_taskAt o x1 σ ∧ (p_X4_taskAt o (f_X8_at 12 (o + 1) x2 σ) (u_X4_makeRoom_1 o x1 x2 N σ) ∧ ((¬ (f_X8_at 12 (o + 1) x2 σ) = x1 → q_X4_makeRoom o N N x1 x2 (f_X8_at 12 (o + 1) x2 σ) ((r_X5_guessToSpill (f_X4_taskAt o x1 σ) (σ.1 o 2) (σ.1 o 3) σ).1) (f_X4_taskAt o (f_X8_at 12 (o + 1) x2 σ) (u_X4_makeRoom_1 o x1 x2 N σ)) (if ((u_X4_makeRoom_1 o x1 x2 N σ).1 (f_X4_taskAt o (f_X8_at 12 (o + 1) x2 σ) (u_X4_makeRoom_1 o x1 x2 N σ)) 2) < ((r_X5_guessToSpill (f_X4_taskAt o x1 σ) (σ.1 o 2) (σ.1 o 3) σ).1) then ((u_X4_makeRoom_1 o x1 x2 N σ).1 (f_X4_taskAt o (f_X8_at 12 (o + 1) x2 σ) (u_X4_makeRoom_1 o x1 x2 N σ)) 2) else ((r_X5_guessToSpill (f_X4_taskAt o x1 σ) (σ.1 o 2) (σ.1 o 3) σ).1)) 0 (u_X4_makeRoom_1 o x1 x2 N σ)) ∧ ((f_X8_at 12 (o + 1) x2 σ) = x1 → q_X4_makeRoom o N N x1 x2 (f_X8_at 12 (o + 1) x2 σ) ((r_X5_guessToSpill (f_X4_taskAt o x1 σ) (σ.1 o 2) (σ.1 o 3) σ).1) (f_X4_taskAt o (f_X8_at 12 (o + 1) x2 σ) (u_X4_makeRoom_1 o x1 x2 N σ)) (if (((u_X4_makeRoom_1 o x1 x2 N σ).1 (f_X4_taskAt o (f_X8_at 12 (o + 1) x2 σ) (u_X4_makeRoom_1 o x1 x2 N σ)) 2) - 1) < ((r_X5_guessToSpill (f_X4_taskAt o x1 σ) (σ.1 o 2) (σ.1 o 3) σ).1) then (((u_X4_makeRoom_1 o x1 x2 N σ).1 (f_X4_taskAt o (f_X8_at 12 (o + 1) x2 σ) (u_X4_makeRoom_1 o x1 x2 N σ)) 2) - 1) else ((r_X5_guessToSpill (f_X4_taskAt o x1 σ) (σ.1 o 2) (σ.1 o 3) σ).1)) 0 (u_X4_makeRoom_1 o x1 x2 N σ))))))
set_option maxRecDepth 100000 in
set_option maxHeartbeats 1000000 in
theorem c_X4_makeRoom {nx : Nat} (o : Nat) (x1 : Int32) (x2 : Int32) (N : Nat) (σ : zS) (hp : p_X4_makeRoom o x1 x2 N σ) : zCl 3 zall nx zall nx 76 [.inr (4, 17, o), .inl x1, .inl x2] σ (fun v σ1 => v = none ∧ σ1 = s_X4_makeRoom o x1 x2 N σ) := by
  refine zmeth (cd := kX4_makeRoom) [70] 1000 (Nat.le_of_ble_eq_true rfl) rfl okX4_makeRoom (Nat.le_refl _) (Nat.le_of_ble_eq_true rfl) ?_
  refine zCl.use (c_X8_at 12 (o + 1) x2 σ hp.1) (Nat.le_of_ble_eq_true rfl) ?_
  rintro _ σz ⟨rfl, hz⟩
  subst σz
  refine And.intro (fun (h1 : ¬ (f_X8_at 12 (o + 1) x2 σ) = (-1)) => ?_) (fun (h1 : (f_X8_at 12 (o + 1) x2 σ) = (-1)) => ?_)
  · refine zCl.use (c_X4_taskAt o x1 σ (hp.2 h1).1) (Nat.le_of_ble_eq_true rfl) ?_
    rintro _ σz ⟨rfl, hz⟩
    subst σz
    refine zCl.use (c_X5_guessToSpill (f_X4_taskAt o x1 σ) (σ.1 o 2) (σ.1 o 3) σ) (Nat.le_of_ble_eq_true rfl) ?_
    rintro _ σz ⟨rfl, hz⟩
    subst σz
    refine zCl.use (c_X4_taskAt o (f_X8_at 12 (o + 1) x2 σ) (u_X4_makeRoom_1 o x1 x2 N σ) (hp.2 h1).2.1) (Nat.le_of_ble_eq_true rfl) ?_
    rintro _ σz ⟨rfl, hz⟩
    subst σz
    refine And.intro (fun (h2 : ¬ (f_X8_at 12 (o + 1) x2 σ) = x1) => ?_) (fun (h2 : (f_X8_at 12 (o + 1) x2 σ) = x1) => ?_)
    · refine zWp.use ((w_X4_makeRoom o N N) x1 x2 (f_X8_at 12 (o + 1) x2 σ) ((r_X5_guessToSpill (f_X4_taskAt o x1 σ) (σ.1 o 2) (σ.1 o 3) σ).1) (f_X4_taskAt o (f_X8_at 12 (o + 1) x2 σ) (u_X4_makeRoom_1 o x1 x2 N σ)) (if ((u_X4_makeRoom_1 o x1 x2 N σ).1 (f_X4_taskAt o (f_X8_at 12 (o + 1) x2 σ) (u_X4_makeRoom_1 o x1 x2 N σ)) 2) < ((r_X5_guessToSpill (f_X4_taskAt o x1 σ) (σ.1 o 2) (σ.1 o 3) σ).1) then ((u_X4_makeRoom_1 o x1 x2 N σ).1 (f_X4_taskAt o (f_X8_at 12 (o + 1) x2 σ) (u_X4_makeRoom_1 o x1 x2 N σ)) 2) else ((r_X5_guessToSpill (f_X4_taskAt o x1 σ) (σ.1 o 2) (σ.1 o 3) σ).1)) 0 (u_X4_makeRoom_1 o x1 x2 N σ) ((hp.2 h1).2.2.1 h2)) (And.intro rfl (And.intro rfl (And.intro rfl (And.intro rfl (And.intro rfl (And.intro rfl (And.intro rfl (And.intro rfl trivial)))))))) (fun vy σy hy => ?_)
      rw [s_X4_makeRoom, if_neg h1, if_neg h2]; exact hy
    · refine zWp.use ((w_X4_makeRoom o N N) x1 x2 (f_X8_at 12 (o + 1) x2 σ) ((r_X5_guessToSpill (f_X4_taskAt o x1 σ) (σ.1 o 2) (σ.1 o 3) σ).1) (f_X4_taskAt o (f_X8_at 12 (o + 1) x2 σ) (u_X4_makeRoom_1 o x1 x2 N σ)) (if (((u_X4_makeRoom_1 o x1 x2 N σ).1 (f_X4_taskAt o (f_X8_at 12 (o + 1) x2 σ) (u_X4_makeRoom_1 o x1 x2 N σ)) 2) - 1) < ((r_X5_guessToSpill (f_X4_taskAt o x1 σ) (σ.1 o 2) (σ.1 o 3) σ).1) then (((u_X4_makeRoom_1 o x1 x2 N σ).1 (f_X4_taskAt o (f_X8_at 12 (o + 1) x2 σ) (u_X4_makeRoom_1 o x1 x2 N σ)) 2) - 1) else ((r_X5_guessToSpill (f_X4_taskAt o x1 σ) (σ.1 o 2) (σ.1 o 3) σ).1)) 0 (u_X4_makeRoom_1 o x1 x2 N σ) ((hp.2 h1).2.2.2 h2)) (And.intro rfl (And.intro rfl (And.intro rfl (And.intro rfl (And.intro rfl (And.intro rfl (And.intro rfl (And.intro rfl trivial)))))))) (fun vy σy hy => ?_)
      rw [s_X4_makeRoom, if_neg h1, if_pos h2]; exact hy
  · exact And.intro rfl (And.intro rfl ⟨rfl, by rw [s_X4_makeRoom, if_pos h1] <;> rfl⟩)
def u_X4_fill_h0_1 (o : Nat) (N : Nat) (v1 : Int32) (v2 : Int32) (a3 : Nat) (v4 : Int32) (v5 : Int32) (v6 : Int32) (σ : zS) : zS := zuI σ a3 11 ((σ.1 a3 11) + v5)
def u_X4_fill_h0_2 (o : Nat) (N : Nat) (v1 : Int32) (v2 : Int32) (a3 : Nat) (v4 : Int32) (v5 : Int32) (v6 : Int32) (σ : zS) : zS := zuI (u_X4_fill_h0_1 o N v1 v2 a3 v4 v5 v6 σ) a3 9 (((u_X4_fill_h0_1 o N v1 v2 a3 v4 v5 v6 σ).1 a3 9) + 1)
def u_X4_fill_h0_3 (o : Nat) (N : Nat) (v1 : Int32) (v2 : Int32) (a3 : Nat) (v4 : Int32) (v5 : Int32) (v6 : Int32) (σ : zS) : zS := s_X4_noteTrap o 1 v1 v5 v1 (u_X4_fill_h0_2 o N v1 v2 a3 v4 v5 v6 σ)
def u_X4_fill_h0_4 (o : Nat) (N : Nat) (v1 : Int32) (v2 : Int32) (a3 : Nat) (v4 : Int32) (v5 : Int32) (v6 : Int32) (σ : zS) : zS := zuI σ a3 11 ((σ.1 a3 11) + v5)
def u_X4_fill_h0_5 (o : Nat) (N : Nat) (v1 : Int32) (v2 : Int32) (a3 : Nat) (v4 : Int32) (v5 : Int32) (v6 : Int32) (σ : zS) : zS := zuI (u_X4_fill_h0_4 o N v1 v2 a3 v4 v5 v6 σ) a3 9 (((u_X4_fill_h0_4 o N v1 v2 a3 v4 v5 v6 σ).1 a3 9) + 1)
def u_X4_fill_h0_6 (o : Nat) (N : Nat) (v1 : Int32) (v2 : Int32) (a3 : Nat) (v4 : Int32) (v5 : Int32) (v6 : Int32) (σ : zS) : zS := s_X4_noteTrap o 1 v1 v5 v1 (u_X4_fill_h0_5 o N v1 v2 a3 v4 v5 v6 σ)
def u_X4_fill_h0_7 (o : Nat) (N : Nat) (v1 : Int32) (v2 : Int32) (a3 : Nat) (v4 : Int32) (v5 : Int32) (v6 : Int32) (σ : zS) : zS := zuI σ a3 11 ((σ.1 a3 11) + v5)
def u_X4_fill_h0_8 (o : Nat) (N : Nat) (v1 : Int32) (v2 : Int32) (a3 : Nat) (v4 : Int32) (v5 : Int32) (v6 : Int32) (σ : zS) : zS := zuI (u_X4_fill_h0_7 o N v1 v2 a3 v4 v5 v6 σ) a3 9 (((u_X4_fill_h0_7 o N v1 v2 a3 v4 v5 v6 σ).1 a3 9) + 1)
def u_X4_fill_h0_9 (o : Nat) (N : Nat) (v1 : Int32) (v2 : Int32) (a3 : Nat) (v4 : Int32) (v5 : Int32) (v6 : Int32) (σ : zS) : zS := s_X4_noteTrap o 1 v1 v5 v1 (u_X4_fill_h0_8 o N v1 v2 a3 v4 v5 v6 σ)
def u_X4_fill_h0_10 (o : Nat) (N : Nat) (v1 : Int32) (v2 : Int32) (a3 : Nat) (v4 : Int32) (v5 : Int32) (v6 : Int32) (σ : zS) : zS := s_X4_moveIn o v1 ((σ.1 (a3 + 1) 0) - (σ.1 a3 2)) v6 σ
def l_X4_fill (o : Nat) (N : Nat) : Nat → Int32 → Int32 → Nat → Int32 → Int32 → Int32 → zS → zS
  | 0, _, _, _, _, _, _, σ => σ
  | n + 1, v1, v2, a3, v4, v5, v6, σ => if v4 ≤ v5 then (u_X4_fill_h0_3 o N v1 v2 a3 v4 v5 v6 σ) else (if (σ.1 (a3 + 1) 0) ≤ (σ.1 a3 2) then (u_X4_fill_h0_6 o N v1 v2 a3 v4 v5 v6 σ) else (if (f_X8_at 12 (o + 1) v6 σ) = (-1) then (l_X4_fill o N n v1 v2 a3 v4 (v5 + 1) (f_X4_ahead o v6 (u_X4_fill_h0_10 o N v1 v2 a3 v4 v5 v6 σ)) (u_X4_fill_h0_10 o N v1 v2 a3 v4 v5 v6 σ)) else (u_X4_fill_h0_9 o N v1 v2 a3 v4 v5 v6 σ)))
def q_X4_fill (o : Nat) (N : Nat) : Nat → Int32 → Int32 → Nat → Int32 → Int32 → Int32 → zS → Prop
  | 0, _, _, _, _, _, _, _ => False
  | n + 1, v1, v2, a3, v4, v5, v6, σ => (v4 ≤ v5 → p_X4_noteTrap o 1 v1 v5 v1 (u_X4_fill_h0_2 o N v1 v2 a3 v4 v5 v6 σ)) ∧ (¬ v4 ≤ v5 → (((σ.1 (a3 + 1) 0) ≤ (σ.1 a3 2) → p_X4_noteTrap o 1 v1 v5 v1 (u_X4_fill_h0_5 o N v1 v2 a3 v4 v5 v6 σ)) ∧ (¬ (σ.1 (a3 + 1) 0) ≤ (σ.1 a3 2) → (p_X8_at 12 (o + 1) v6 σ ∧ ((¬ (f_X8_at 12 (o + 1) v6 σ) = (-1) → p_X4_noteTrap o 1 v1 v5 v1 (u_X4_fill_h0_8 o N v1 v2 a3 v4 v5 v6 σ)) ∧ ((f_X8_at 12 (o + 1) v6 σ) = (-1) → (p_X4_moveIn o v1 ((σ.1 (a3 + 1) 0) - (σ.1 a3 2)) v6 σ ∧ q_X4_fill o N n v1 v2 a3 v4 (v5 + 1) (f_X4_ahead o v6 (u_X4_fill_h0_10 o N v1 v2 a3 v4 v5 v6 σ)) (u_X4_fill_h0_10 o N v1 v2 a3 v4 v5 v6 σ))))))))
set_option maxRecDepth 100000 in
set_option maxHeartbeats 1000000 in
theorem w_X4_fill {nx : Nat} (o : Nat) (N : Nat) : ∀ n : Nat, (∀ (v1 : Int32) (v2 : Int32) (a3 : Nat) (v4 : Int32) (v5 : Int32) (v6 : Int32) (σ : zS), q_X4_fill o N n v1 v2 a3 v4 v5 v6 σ → zWp 3 zall nx 77 (fun v σ1 => v = none ∧ σ1 = l_X4_fill o N n v1 v2 a3 v4 v5 v6 σ) zall nx 26 [some (.inr (4, 17, o)), some (.inl v1), some (.inl v2), some (.inr (5, 12, a3)), some (.inl v4), some (.inl v5), some (.inl v6)] [] σ) := by
  intro n
  induction n with
  | zero => exact fun _ _ _ _ _ _ _ h => h.elim
  | succ n ih =>
    intro v1 v2 a3 v4 v5 v6 σ hp
    rw [q_X4_fill] at hp
    refine zvc_sound (cd := kX4_fill) (cs := [26]) rfl okX4_fill 1000 _ _ 26 (zseek kX4_fill 26) _ _ _ zseek_sub ?_
    refine And.intro (fun (h1 : v4 ≤ v5) => ?_) (fun (h1 : ¬ v4 ≤ v5) => ?_)
    · refine zCl.use (c_X4_noteTrap o 1 v1 v5 v1 (u_X4_fill_h0_2 o N v1 v2 a3 v4 v5 v6 σ) (hp.1 h1)) (Nat.le_of_ble_eq_true rfl) ?_
      rintro _ σz ⟨rfl, hz⟩
      subst σz
      exact And.intro rfl (And.intro rfl ⟨rfl, by rw [l_X4_fill, if_pos h1] <;> rfl⟩)
    · refine And.intro (fun (h2 : (σ.1 (a3 + 1) 0) ≤ (σ.1 a3 2)) => ?_) (fun (h2 : ¬ (σ.1 (a3 + 1) 0) ≤ (σ.1 a3 2)) => ?_)
      · refine zCl.use (c_X4_noteTrap o 1 v1 v5 v1 (u_X4_fill_h0_5 o N v1 v2 a3 v4 v5 v6 σ) ((hp.2 h1).1 h2)) (Nat.le_of_ble_eq_true rfl) ?_
        rintro _ σz ⟨rfl, hz⟩
        subst σz
        exact And.intro rfl (And.intro rfl ⟨rfl, by rw [l_X4_fill, if_neg h1, if_pos h2] <;> rfl⟩)
      · refine zCl.use (c_X8_at 12 (o + 1) v6 σ ((hp.2 h1).2 h2).1) (Nat.le_of_ble_eq_true rfl) ?_
        rintro _ σz ⟨rfl, hz⟩
        subst σz
        refine And.intro (fun (h3 : ¬ (f_X8_at 12 (o + 1) v6 σ) = (-1)) => ?_) (fun (h3 : (f_X8_at 12 (o + 1) v6 σ) = (-1)) => ?_)
        · refine zCl.use (c_X4_noteTrap o 1 v1 v5 v1 (u_X4_fill_h0_8 o N v1 v2 a3 v4 v5 v6 σ) (((hp.2 h1).2 h2).2.1 h3)) (Nat.le_of_ble_eq_true rfl) ?_
          rintro _ σz ⟨rfl, hz⟩
          subst σz
          exact And.intro rfl (And.intro rfl ⟨rfl, by rw [l_X4_fill, if_neg h1, if_neg h2, if_neg h3] <;> rfl⟩)
        · refine zCl.use (c_X4_moveIn o v1 ((σ.1 (a3 + 1) 0) - (σ.1 a3 2)) v6 σ (((hp.2 h1).2 h2).2.2 h3).1) (Nat.le_of_ble_eq_true rfl) ?_
          rintro _ σz ⟨rfl, hz⟩
          subst σz
          refine zCl.use (c_X4_ahead o v6 (u_X4_fill_h0_10 o N v1 v2 a3 v4 v5 v6 σ)) (Nat.le_of_ble_eq_true rfl) ?_
          rintro _ σz ⟨rfl, hz⟩
          subst σz
          refine zWp.use (ih v1 v2 a3 v4 (v5 + 1) (f_X4_ahead o v6 (u_X4_fill_h0_10 o N v1 v2 a3 v4 v5 v6 σ)) (u_X4_fill_h0_10 o N v1 v2 a3 v4 v5 v6 σ) (((hp.2 h1).2 h2).2.2 h3).2) (And.intro rfl (And.intro rfl (And.intro rfl (And.intro rfl (And.intro rfl (And.intro rfl (And.intro rfl trivial))))))) (fun vy σy hy => ?_)
          rw [l_X4_fill, if_neg h1, if_neg h2, if_pos h3]; exact hy
def u_X4_fill_1 (o : Nat) (x1 : Int32) (x2 : Int32) (N : Nat) (σ : zS) : zS := (r_X5_guessToFill (f_X4_taskAt o x1 σ) (σ.1 o 2) (σ.1 o 3) σ).2
def s_X4_fill (o : Nat) (x1 : Int32) (x2 : Int32) (N : Nat) (σ : zS) : zS := l_X4_fill o N N x1 x2 (f_X4_taskAt o x1 σ) ((r_X5_guessToFill (f_X4_taskAt o x1 σ) (σ.1 o 2) (σ.1 o 3) σ).1) 0 x2 (u_X4_fill_1 o x1 x2 N σ)
def p_X4_fill (o : Nat) (x1 : Int32) (x2 : Int32) (N : Nat) (σ : zS) : Prop := p_X4_taskAt o x1 σ ∧ q_X4_fill o N N x1 x2 (f_X4_taskAt o x1 σ) ((r_X5_guessToFill (f_X4_taskAt o x1 σ) (σ.1 o 2) (σ.1 o 3) σ).1) 0 x2 (u_X4_fill_1 o x1 x2 N σ)
set_option maxRecDepth 100000 in
set_option maxHeartbeats 1000000 in
theorem c_X4_fill {nx : Nat} (o : Nat) (x1 : Int32) (x2 : Int32) (N : Nat) (σ : zS) (hp : p_X4_fill o x1 x2 N σ) : zCl 3 zall nx zall nx 77 [.inr (4, 17, o), .inl x1, .inl x2] σ (fun v σ1 => v = none ∧ σ1 = s_X4_fill o x1 x2 N σ) := by
  refine zmeth (cd := kX4_fill) [26] 1000 (Nat.le_of_ble_eq_true rfl) rfl okX4_fill (Nat.le_refl _) (Nat.le_of_ble_eq_true rfl) ?_
  refine zCl.use (c_X4_taskAt o x1 σ hp.1) (Nat.le_of_ble_eq_true rfl) ?_
  rintro _ σz ⟨rfl, hz⟩
  subst σz
  refine zCl.use (c_X5_guessToFill (f_X4_taskAt o x1 σ) (σ.1 o 2) (σ.1 o 3) σ) (Nat.le_of_ble_eq_true rfl) ?_
  rintro _ σz ⟨rfl, hz⟩
  subst σz
  refine zWp.use ((w_X4_fill o N N) x1 x2 (f_X4_taskAt o x1 σ) ((r_X5_guessToFill (f_X4_taskAt o x1 σ) (σ.1 o 2) (σ.1 o 3) σ).1) 0 x2 (u_X4_fill_1 o x1 x2 N σ) hp.2) (And.intro rfl (And.intro rfl (And.intro rfl (And.intro rfl (And.intro rfl (And.intro rfl (And.intro rfl trivial))))))) (fun vy σy hy => ?_)
  rw [s_X4_fill]; exact hy
def l_X6_isWord (t1 : Nat) (N : Nat) : Nat → Int32 → zS → Int32
  | 0, _, σ => 0
  | n + 1, v2, σ => if (f_J0_length_8abf5 t1) ≤ v2 then 1 else (if (Int32.ofNat ((zlay (σ.2 3 0 - 1)).2)) ≤ ((σ.1 3 3) + v2) then 1 else (if (f_J0_charAt_5068e t1 v2) = (σ.1 (σ.2 3 0 - 1) ((σ.1 3 3) + v2).toNatClampNeg) then (l_X6_isWord t1 N n (v2 + 1) σ) else 0))
def q_X6_isWord (t1 : Nat) (N : Nat) : Nat → Int32 → zS → Prop
  | 0, _, _ => False
  | n + 1, v2, σ => ¬ (f_J0_length_8abf5 t1) ≤ v2 → ((σ.2 3 0 ≠ 0 ∧ (zlay (σ.2 3 0 - 1)).1 = 20) ∧ (¬ (Int32.ofNat ((zlay (σ.2 3 0 - 1)).2)) ≤ ((σ.1 3 3) + v2) → (p_J0_charAt_5068e t1 v2 σ ∧ (vp_in ((σ.1 3 3) + v2) ((zlay (σ.2 3 0 - 1)).2) ∧ ((f_J0_charAt_5068e t1 v2) = (σ.1 (σ.2 3 0 - 1) ((σ.1 3 3) + v2).toNatClampNeg) → q_X6_isWord t1 N n (v2 + 1) σ)))))
set_option maxRecDepth 100000 in
set_option maxHeartbeats 1000000 in
theorem w_X6_isWord {cp : Nat → Bool} {nx : Nat} (t1 : Nat) (N : Nat) : ∀ n : Nat, (∀ (v2 : Int32) (σ : zS), q_X6_isWord t1 N n v2 σ → zWp 6 cp nx 97 (fun v σ1 => v = some (.inl (l_X6_isWord t1 N n v2 σ)) ∧ σ1 = σ) cp nx 20 [some (.inr (6, 6, 3)), some (.inr (30, t1, (1000010 + t1))), some (.inl v2)] [] σ) := by
  intro n
  induction n with
  | zero => exact fun _ _ h => h.elim
  | succ n ih =>
    intro v2 σ hp
    rw [q_X6_isWord] at hp
    refine zvc_sound (cd := kX6_isWord) (cs := [20]) rfl okX6_isWord 1000 _ _ 20 (zseek kX6_isWord 20) _ _ _ zseek_sub ?_
    refine zCl.use (c_J0_length_8abf5 t1 σ) (Nat.le_of_ble_eq_true rfl) ?_
    rintro _ σz ⟨rfl, hz⟩
    subst σz
    refine And.intro (fun (h1 : (f_J0_length_8abf5 t1) ≤ v2) => ?_) (fun (h1 : ¬ (f_J0_length_8abf5 t1) ≤ v2) => ?_)
    · exact And.intro rfl (And.intro rfl (And.intro (Or.inr rfl) ⟨by rw [l_X6_isWord, if_pos h1] <;> rfl, rfl⟩))
    · refine And.intro (hp h1).1.1 (fun q902 (e2 : σ.2 3 0 = q902 + 1) => ?_)
      have g2 : q902 = (σ.2 3 0 - 1) := by omega
      subst g2
      rw [(hp h1).1.2]
      refine And.intro (fun (h3 : (Int32.ofNat ((zlay (σ.2 3 0 - 1)).2)) ≤ ((σ.1 3 3) + v2)) => ?_) (fun (h3 : ¬ (Int32.ofNat ((zlay (σ.2 3 0 - 1)).2)) ≤ ((σ.1 3 3) + v2)) => ?_)
      · exact And.intro rfl (And.intro rfl (And.intro (Or.inr rfl) ⟨by rw [l_X6_isWord, if_neg h1, if_pos h3] <;> rfl, rfl⟩))
      · refine zCl.use (c_J0_charAt_5068e t1 v2 σ ((hp h1).2 h3).1) (Nat.le_of_ble_eq_true rfl) ?_
        rintro _ σz ⟨rfl, hz⟩
        subst σz
        refine And.intro (hp h1).1.1 (fun q904 (e4 : σ.2 3 0 = q904 + 1) => ?_)
        have g4 : q904 = (σ.2 3 0 - 1) := by omega
        subst g4
        rw [(hp h1).1.2]
        refine And.intro ((hp h1).2 h3).2.1 ?_
        refine And.intro (fun (h5 : (f_J0_charAt_5068e t1 v2) = (σ.1 (σ.2 3 0 - 1) ((σ.1 3 3) + v2).toNatClampNeg)) => ?_) (fun (h5 : ¬ (f_J0_charAt_5068e t1 v2) = (σ.1 (σ.2 3 0 - 1) ((σ.1 3 3) + v2).toNatClampNeg)) => ?_)
        · refine zWp.use (ih (v2 + 1) σ (((hp h1).2 h3).2.2 h5)) (And.intro rfl (And.intro rfl (And.intro rfl trivial))) (fun vy σy hy => ?_)
          rw [l_X6_isWord, if_neg h1, if_neg h3, if_pos h5]; exact hy
        · exact And.intro rfl (And.intro rfl (And.intro (Or.inl rfl) ⟨by rw [l_X6_isWord, if_neg h1, if_neg h3, if_neg h5] <;> rfl, rfl⟩))
def f_X6_isWord (t1 : Nat) (N : Nat) (σ : zS) : Int32 := if (f_J0_length_8abf5 t1) = ((σ.1 3 4) - (σ.1 3 3)) then (l_X6_isWord t1 N N 0 σ) else 0
def p_X6_isWord (t1 : Nat) (N : Nat) (σ : zS) : Prop := (f_J0_length_8abf5 t1) = ((σ.1 3 4) - (σ.1 3 3)) → q_X6_isWord t1 N N 0 σ
set_option maxRecDepth 100000 in
set_option maxHeartbeats 1000000 in
theorem c_X6_isWord {cp : Nat → Bool} {nx : Nat} (t1 : Nat) (N : Nat) (σ : zS) (hp : p_X6_isWord t1 N σ) : zCl 6 cp nx cp nx 97 [.inr (6, 6, 3), .inr (30, t1, (1000010 + t1))] σ (fun v σ1 => v = some (.inl (f_X6_isWord t1 N σ)) ∧ σ1 = σ) := by
  refine zmeth (cd := kX6_isWord) [20] 1000 (Nat.le_of_ble_eq_true rfl) rfl okX6_isWord (Nat.le_refl _) (Nat.le_of_ble_eq_true rfl) ?_
  refine zCl.use (c_J0_length_8abf5 t1 σ) (Nat.le_of_ble_eq_true rfl) ?_
  rintro _ σz ⟨rfl, hz⟩
  subst σz
  refine And.intro (fun (h1 : (f_J0_length_8abf5 t1) = ((σ.1 3 4) - (σ.1 3 3))) => ?_) (fun (h1 : ¬ (f_J0_length_8abf5 t1) = ((σ.1 3 4) - (σ.1 3 3))) => ?_)
  · refine zWp.use ((w_X6_isWord t1 N N) 0 σ (hp h1)) (And.intro rfl (And.intro rfl (And.intro rfl trivial))) (fun vy σy hy => ?_)
    rw [f_X6_isWord, if_pos h1]; exact hy
  · exact And.intro rfl (And.intro rfl (And.intro (Or.inl rfl) ⟨by rw [f_X6_isWord, if_neg h1] <;> rfl, rfl⟩))
def u_X8_handler_1 (x1 : Int32) (x2 : Int32) (N : Nat) (σ : zS) : zS := (r_X1_nextAct N σ).2
def u_X8_handler_2 (x1 : Int32) (x2 : Int32) (N : Nat) (σ : zS) : zS := s_X4_changeHandler ((r_X1_nextAct N σ).1) x1 x2 N (u_X8_handler_1 x1 x2 N σ)
def r_X8_handler (x1 : Int32) (x2 : Int32) (N : Nat) (σ : zS) : Int32 × zS := if (f_X8_handlerCanBe x1 x2) = 0 then (0, σ) else (1, (u_X8_handler_2 x1 x2 N σ))
def p_X8_handler (x1 : Int32) (x2 : Int32) (N : Nat) (σ : zS) : Prop := ¬ (f_X8_handlerCanBe x1 x2) = 0 → (p_X1_nextAct N σ ∧ p_X4_changeHandler ((r_X1_nextAct N σ).1) x1 x2 N (u_X8_handler_1 x1 x2 N σ))
set_option maxRecDepth 100000 in
set_option maxHeartbeats 1000000 in
theorem c_X8_handler {nx : Nat} (x1 : Int32) (x2 : Int32) (N : Nat) (σ : zS) (hp : p_X8_handler x1 x2 N σ) : zCl 5 zall nx zall nx 114 [.inr (8, 16, 0), .inl x1, .inl x2] σ (fun v σ1 => v = some (.inl ((r_X8_handler x1 x2 N σ).1)) ∧ σ1 = (r_X8_handler x1 x2 N σ).2) := by
  refine zmeth (cd := kX8_handler) [] 1000 (Nat.le_of_ble_eq_true rfl) rfl okX8_handler (Nat.le_refl _) (Nat.le_of_ble_eq_true rfl) ?_
  refine zCl.use (c_X8_handlerCanBe x1 x2 σ) (Nat.le_of_ble_eq_true rfl) ?_
  rintro _ σz ⟨rfl, hz⟩
  subst σz
  refine And.intro (fun (h1 : ¬ (f_X8_handlerCanBe x1 x2) = 0) => ?_) (fun (h1 : (f_X8_handlerCanBe x1 x2) = 0) => ?_)
  · refine zCl.use (c_X1_nextAct N σ (hp h1).1) (Nat.le_of_ble_eq_true rfl) ?_
    rintro _ σz ⟨rfl, hz⟩
    subst σz
    refine zCl.use (c_X4_changeHandler ((r_X1_nextAct N σ).1) x1 x2 N (u_X8_handler_1 x1 x2 N σ) (hp h1).2) (Nat.le_of_ble_eq_true rfl) ?_
    rintro _ σz ⟨rfl, hz⟩
    subst σz
    exact And.intro rfl (And.intro rfl (And.intro (Or.inr rfl) ⟨by rw [r_X8_handler, if_neg h1] <;> rfl, by rw [r_X8_handler, if_neg h1] <;> rfl⟩))
  · exact And.intro rfl (And.intro rfl (And.intro (Or.inl rfl) ⟨by rw [r_X8_handler, if_pos h1] <;> rfl, by rw [r_X8_handler, if_pos h1] <;> rfl⟩))
theorem b_X8_handler {x1 : Int32} {x2 : Int32} {N : Nat} {σ : zS} : (r_X8_handler x1 x2 N σ).1 = 0 ∨ (r_X8_handler x1 x2 N σ).1 = 1 := by
  unfold r_X8_handler
  (repeat' split) <;> first | exact Or.inl rfl | exact Or.inr rfl
def u_X8_price_1 (x1 : Int32) (x2 : Int32) (N : Nat) (σ : zS) : zS := (r_X1_nextAct N σ).2
def u_X8_price_2 (x1 : Int32) (x2 : Int32) (N : Nat) (σ : zS) : zS := zuI (u_X8_price_1 x1 x2 N σ) ((r_X1_nextAct N σ).1) 4 x1
def u_X8_price_3 (x1 : Int32) (x2 : Int32) (N : Nat) (σ : zS) : zS := zuI (u_X8_price_2 x1 x2 N σ) ((r_X1_nextAct N σ).1) 5 x2
def r_X8_price (x1 : Int32) (x2 : Int32) (N : Nat) (σ : zS) : Int32 × zS := if x1 < 0 then (-1, σ) else (if 99 < x1 then (-1, σ) else (if x2 < 0 then (-1, σ) else (if x2 ≤ 99 then (f_X4_cost ((r_X1_nextAct N σ).1) (u_X8_price_3 x1 x2 N σ), (u_X8_price_3 x1 x2 N σ)) else (-1, σ))))
def p_X8_price (x1 : Int32) (x2 : Int32) (N : Nat) (σ : zS) : Prop := ¬ x1 < 0 → (¬ 99 < x1 → (¬ x2 < 0 → (x2 ≤ 99 → p_X1_nextAct N σ)))
set_option maxRecDepth 100000 in
set_option maxHeartbeats 1000000 in
theorem c_X8_price {nx : Nat} (x1 : Int32) (x2 : Int32) (N : Nat) (σ : zS) (hp : p_X8_price x1 x2 N σ) : zCl 5 zall nx zall nx 115 [.inr (8, 16, 0), .inl x1, .inl x2] σ (fun v σ1 => v = some (.inl ((r_X8_price x1 x2 N σ).1)) ∧ σ1 = (r_X8_price x1 x2 N σ).2) := by
  refine zmeth (cd := kX8_price) [] 1000 (Nat.le_of_ble_eq_true rfl) rfl okX8_price (Nat.le_refl _) (Nat.le_of_ble_eq_true rfl) ?_
  refine And.intro (fun (h1 : x1 < 0) => ?_) (fun (h1 : ¬ x1 < 0) => ?_)
  · exact And.intro rfl (And.intro rfl ⟨by rw [r_X8_price, if_pos h1] <;> rfl, by rw [r_X8_price, if_pos h1] <;> rfl⟩)
  · refine And.intro (fun (h2 : 99 < x1) => ?_) (fun (h2 : ¬ 99 < x1) => ?_)
    · exact And.intro rfl (And.intro rfl ⟨by rw [r_X8_price, if_neg h1, if_pos h2] <;> rfl, by rw [r_X8_price, if_neg h1, if_pos h2] <;> rfl⟩)
    · refine And.intro (fun (h3 : x2 < 0) => ?_) (fun (h3 : ¬ x2 < 0) => ?_)
      · exact And.intro rfl (And.intro rfl ⟨by rw [r_X8_price, if_neg h1, if_neg h2, if_pos h3] <;> rfl, by rw [r_X8_price, if_neg h1, if_neg h2, if_pos h3] <;> rfl⟩)
      · refine And.intro (fun (h4 : x2 ≤ 99) => ?_) (fun (h4 : ¬ x2 ≤ 99) => ?_)
        · refine zCl.use (c_X1_nextAct N σ ((((hp h1) h2) h3) h4)) (Nat.le_of_ble_eq_true rfl) ?_
          rintro _ σz ⟨rfl, hz⟩
          subst σz
          refine zCl.use (c_X4_cost ((r_X1_nextAct N σ).1) (u_X8_price_3 x1 x2 N σ)) (Nat.le_of_ble_eq_true rfl) ?_
          rintro _ σz ⟨rfl, hz⟩
          subst σz
          exact And.intro rfl (And.intro rfl ⟨by rw [r_X8_price, if_neg h1, if_neg h2, if_neg h3, if_pos h4] <;> rfl, by rw [r_X8_price, if_neg h1, if_neg h2, if_neg h3, if_pos h4] <;> rfl⟩)
        · exact And.intro rfl (And.intro rfl ⟨by rw [r_X8_price, if_neg h1, if_neg h2, if_neg h3, if_neg h4] <;> rfl, by rw [r_X8_price, if_neg h1, if_neg h2, if_neg h3, if_neg h4] <;> rfl⟩)
