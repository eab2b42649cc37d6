/-! printed by wip/whole/dec2.py -/
def u_X4_passTurn_1 (o : Nat) (N : Nat) (σ : zS) : zS := zuI σ o 7 (f_X4_nextTurn o N σ)
def u_X4_passTurn_2 (o : Nat) (N : Nat) (σ : zS) : zS := zuI (u_X4_passTurn_1 o N σ) o 8 0
def u_X4_passTurn_3 (o : Nat) (N : Nat) (σ : zS) : zS := zuI σ o 7 (f_X4_nextTurn o N σ)
def u_X4_passTurn_4 (o : Nat) (N : Nat) (σ : zS) : zS := zuI (u_X4_passTurn_3 o N σ) o 8 0
def s_X4_passTurn (o : Nat) (N : Nat) (σ : zS) : zS := if (f_X4_isOver o (σ.1 o 7) σ) = 0 then (if (σ.1 o 6) ≤ (σ.1 o 8) then (u_X4_passTurn_4 o N σ) else σ) else (u_X4_passTurn_2 o N σ)
def p_X4_passTurn (o : Nat) (N : Nat) (σ : zS) : Prop := p_X4_isOver o (σ.1 o 7) σ ∧ ((¬ (f_X4_isOver o (σ.1 o 7) σ) = 0 → p_X4_nextTurn o N σ) ∧ ((f_X4_isOver o (σ.1 o 7) σ) = 0 → ((σ.1 o 6) ≤ (σ.1 o 8) → p_X4_nextTurn o N σ)))
set_option maxRecDepth 100000 in
set_option maxHeartbeats 1000000 in
theorem c_X4_passTurn {nx : Nat} (o : Nat) (N : Nat) (σ : zS) (hp : p_X4_passTurn o N σ) : zCl 4 zall nx zall nx 68 [.inr (4, 17, o)] σ (fun v σ1 => v = none ∧ σ1 = s_X4_passTurn o N σ) := by
  refine zmeth (cd := kX4_passTurn) [] 1000 (Nat.le_of_ble_eq_true rfl) rfl okX4_passTurn (Nat.le_refl _) (Nat.le_of_ble_eq_true rfl) ?_
  refine zCl.use (c_X4_isOver o (σ.1 o 7) σ hp.1) (Nat.le_of_ble_eq_true rfl) ?_
  rintro _ σz ⟨rfl, hz⟩
  subst σz
  refine And.intro (fun (h1 : ¬ (f_X4_isOver o (σ.1 o 7) σ) = 0) => ?_) (fun (h1 : (f_X4_isOver o (σ.1 o 7) σ) = 0) => ?_)
  · refine zCl.use (c_X4_nextTurn o N σ (hp.2.1 h1)) (Nat.le_of_ble_eq_true rfl) ?_
    rintro _ σz ⟨rfl, hz⟩
    subst σz
    exact And.intro rfl (And.intro rfl ⟨rfl, by rw [s_X4_passTurn, if_neg h1] <;> rfl⟩)
  · refine And.intro (fun (h2 : (σ.1 o 6) ≤ (σ.1 o 8)) => ?_) (fun (h2 : ¬ (σ.1 o 6) ≤ (σ.1 o 8)) => ?_)
    · refine zCl.use (c_X4_nextTurn o N σ ((hp.2.2 h1) h2)) (Nat.le_of_ble_eq_true rfl) ?_
      rintro _ σz ⟨rfl, hz⟩
      subst σz
      exact And.intro rfl (And.intro rfl ⟨rfl, by rw [s_X4_passTurn, if_pos h1, if_pos h2] <;> rfl⟩)
    · exact And.intro rfl (And.intro rfl ⟨rfl, by rw [s_X4_passTurn, if_pos h1, if_neg h2] <;> rfl⟩)
def u_X4_moveIn_1 (o : Nat) (x1 : Int32) (x2 : Int32) (x3 : Int32) (σ : zS) : zS := s_X8_put 12 (o + 1) x3 x1 σ
def u_X4_moveIn_2 (o : Nat) (x1 : Int32) (x2 : Int32) (x3 : Int32) (σ : zS) : zS := s_X8_put 12 (o + 2) x3 x2 (u_X4_moveIn_1 o x1 x2 x3 σ)
def u_X4_moveIn_3 (o : Nat) (x1 : Int32) (x2 : Int32) (x3 : Int32) (σ : zS) : zS := zuI (u_X4_moveIn_2 o x1 x2 x3 σ) (f_X4_taskAt o x1 (u_X4_moveIn_2 o x1 x2 x3 σ)) 2 (((u_X4_moveIn_2 o x1 x2 x3 σ).1 (f_X4_taskAt o x1 (u_X4_moveIn_2 o x1 x2 x3 σ)) 2) + 1)
def s_X4_moveIn (o : Nat) (x1 : Int32) (x2 : Int32) (x3 : Int32) (σ : zS) : zS := (u_X4_moveIn_3 o x1 x2 x3 σ)
def p_X4_moveIn (o : Nat) (x1 : Int32) (x2 : Int32) (x3 : Int32) (σ : zS) : Prop := p_X8_put 12 (o + 1) x3 x1 σ ∧ (p_X8_put 12 (o + 2) x3 x2 (u_X4_moveIn_1 o x1 x2 x3 σ) ∧ p_X4_taskAt o x1 (u_X4_moveIn_2 o x1 x2 x3 σ))
set_option maxRecDepth 100000 in
set_option maxHeartbeats 1000000 in
theorem c_X4_moveIn {nx : Nat} (o : Nat) (x1 : Int32) (x2 : Int32) (x3 : Int32) (σ : zS) (hp : p_X4_moveIn o x1 x2 x3 σ) : zCl 2 zall nx zall nx 78 [.inr (4, 17, o), .inl x1, .inl x2, .inl x3] σ (fun v σ1 => v = none ∧ σ1 = s_X4_moveIn o x1 x2 x3 σ) := by
  refine zmeth (cd := kX4_moveIn) [] 1000 (Nat.le_of_ble_eq_true rfl) rfl okX4_moveIn (Nat.le_refl _) (Nat.le_of_ble_eq_true rfl) ?_
  refine zCl.use (c_X8_put 12 (o + 1) x3 x1 σ hp.1) (Nat.le_of_ble_eq_true rfl) ?_
  rintro _ σz ⟨rfl, hz⟩
  subst σz
  refine zCl.use (c_X8_put 12 (o + 2) x3 x2 (u_X4_moveIn_1 o x1 x2 x3 σ) hp.2.1) (Nat.le_of_ble_eq_true rfl) ?_
  rintro _ σz ⟨rfl, hz⟩
  subst σz
  refine zCl.use (c_X4_taskAt o x1 (u_X4_moveIn_2 o x1 x2 x3 σ) hp.2.2) (Nat.le_of_ble_eq_true rfl) ?_
  rintro _ σz ⟨rfl, hz⟩
  subst σz
  exact And.intro rfl (And.intro rfl ⟨rfl, by rw [s_X4_moveIn] <;> rfl⟩)
def u_X4_moveOut_1 (o : Nat) (x1 : Int32) (x2 : Int32) (σ : zS) : zS := s_X8_put 12 (o + 1) x2 (-1) σ
def u_X4_moveOut_2 (o : Nat) (x1 : Int32) (x2 : Int32) (σ : zS) : zS := s_X8_put 12 (o + 2) x2 (-1) (u_X4_moveOut_1 o x1 x2 σ)
def u_X4_moveOut_3 (o : Nat) (x1 : Int32) (x2 : Int32) (σ : zS) : zS := zuI (u_X4_moveOut_2 o x1 x2 σ) (f_X4_taskAt o x1 (u_X4_moveOut_2 o x1 x2 σ)) 2 (((u_X4_moveOut_2 o x1 x2 σ).1 (f_X4_taskAt o x1 (u_X4_moveOut_2 o x1 x2 σ)) 2) - 1)
def s_X4_moveOut (o : Nat) (x1 : Int32) (x2 : Int32) (σ : zS) : zS := (u_X4_moveOut_3 o x1 x2 σ)
def p_X4_moveOut (o : Nat) (x1 : Int32) (x2 : Int32) (σ : zS) : Prop := p_X8_put 12 (o + 1) x2 (-1) σ ∧ (p_X8_put 12 (o + 2) x2 (-1) (u_X4_moveOut_1 o x1 x2 σ) ∧ p_X4_taskAt o x1 (u_X4_moveOut_2 o x1 x2 σ))
set_option maxRecDepth 100000 in
set_option maxHeartbeats 1000000 in
theorem c_X4_moveOut {nx : Nat} (o : Nat) (x1 : Int32) (x2 : Int32) (σ : zS) (hp : p_X4_moveOut o x1 x2 σ) : zCl 2 zall nx zall nx 79 [.inr (4, 17, o), .inl x1, .inl x2] σ (fun v σ1 => v = none ∧ σ1 = s_X4_moveOut o x1 x2 σ) := by
  refine zmeth (cd := kX4_moveOut) [] 1000 (Nat.le_of_ble_eq_true rfl) rfl okX4_moveOut (Nat.le_refl _) (Nat.le_of_ble_eq_true rfl) ?_
  refine zCl.use (c_X8_put 12 (o + 1) x2 (-1) σ hp.1) (Nat.le_of_ble_eq_true rfl) ?_
  rintro _ σz ⟨rfl, hz⟩
  subst σz
  refine zCl.use (c_X8_put 12 (o + 2) x2 (-1) (u_X4_moveOut_1 o x1 x2 σ) hp.2.1) (Nat.le_of_ble_eq_true rfl) ?_
  rintro _ σz ⟨rfl, hz⟩
  subst σz
  refine zCl.use (c_X4_taskAt o x1 (u_X4_moveOut_2 o x1 x2 σ) hp.2.2) (Nat.le_of_ble_eq_true rfl) ?_
  rintro _ σz ⟨rfl, hz⟩
  subst σz
  exact And.intro rfl (And.intro rfl ⟨rfl, by rw [s_X4_moveOut] <;> rfl⟩)
def u_X4_noteTrap_1 (o : Nat) (x1 : Int32) (x2 : Int32) (x3 : Int32) (x4 : Int32) (σ : zS) : zS := s_X8_put 100 (o + 3) (((σ.1 o 10) - (σ.1 o 10) / 20 * 20) * 5) x1 σ
def u_X4_noteTrap_2 (o : Nat) (x1 : Int32) (x2 : Int32) (x3 : Int32) (x4 : Int32) (σ : zS) : zS := s_X8_put 100 (o + 3) ((((σ.1 o 10) - (σ.1 o 10) / 20 * 20) * 5) + 1) x2 (u_X4_noteTrap_1 o x1 x2 x3 x4 σ)
def u_X4_noteTrap_3 (o : Nat) (x1 : Int32) (x2 : Int32) (x3 : Int32) (x4 : Int32) (σ : zS) : zS := s_X8_put 100 (o + 3) ((((σ.1 o 10) - (σ.1 o 10) / 20 * 20) * 5) + 2) x3 (u_X4_noteTrap_2 o x1 x2 x3 x4 σ)
def u_X4_noteTrap_4 (o : Nat) (x1 : Int32) (x2 : Int32) (x3 : Int32) (x4 : Int32) (σ : zS) : zS := s_X8_put 100 (o + 3) ((((σ.1 o 10) - (σ.1 o 10) / 20 * 20) * 5) + 3) x4 (u_X4_noteTrap_3 o x1 x2 x3 x4 σ)
def u_X4_noteTrap_5 (o : Nat) (x1 : Int32) (x2 : Int32) (x3 : Int32) (x4 : Int32) (σ : zS) : zS := s_X8_put 100 (o + 3) ((((σ.1 o 10) - (σ.1 o 10) / 20 * 20) * 5) + 4) ((u_X4_noteTrap_4 o x1 x2 x3 x4 σ).1 o 9) (u_X4_noteTrap_4 o x1 x2 x3 x4 σ)
def u_X4_noteTrap_6 (o : Nat) (x1 : Int32) (x2 : Int32) (x3 : Int32) (x4 : Int32) (σ : zS) : zS := zuI (u_X4_noteTrap_5 o x1 x2 x3 x4 σ) o 10 (((u_X4_noteTrap_5 o x1 x2 x3 x4 σ).1 o 10) + 1)
def u_X4_noteTrap_7 (o : Nat) (x1 : Int32) (x2 : Int32) (x3 : Int32) (x4 : Int32) (σ : zS) : zS := zuI (u_X4_noteTrap_6 o x1 x2 x3 x4 σ) o 11 (((u_X4_noteTrap_6 o x1 x2 x3 x4 σ).1 o 11) + x3)
def s_X4_noteTrap (o : Nat) (x1 : Int32) (x2 : Int32) (x3 : Int32) (x4 : Int32) (σ : zS) : zS := (u_X4_noteTrap_7 o x1 x2 x3 x4 σ)
def p_X4_noteTrap (o : Nat) (x1 : Int32) (x2 : Int32) (x3 : Int32) (x4 : Int32) (σ : zS) : Prop := p_X8_put 100 (o + 3) (((σ.1 o 10) - (σ.1 o 10) / 20 * 20) * 5) x1 σ ∧ (p_X8_put 100 (o + 3) ((((σ.1 o 10) - (σ.1 o 10) / 20 * 20) * 5) + 1) x2 (u_X4_noteTrap_1 o x1 x2 x3 x4 σ) ∧ (p_X8_put 100 (o + 3) ((((σ.1 o 10) - (σ.1 o 10) / 20 * 20) * 5) + 2) x3 (u_X4_noteTrap_2 o x1 x2 x3 x4 σ) ∧ (p_X8_put 100 (o + 3) ((((σ.1 o 10) - (σ.1 o 10) / 20 * 20) * 5) + 3) x4 (u_X4_noteTrap_3 o x1 x2 x3 x4 σ) ∧ p_X8_put 100 (o + 3) ((((σ.1 o 10) - (σ.1 o 10) / 20 * 20) * 5) + 4) ((u_X4_noteTrap_4 o x1 x2 x3 x4 σ).1 o 9) (u_X4_noteTrap_4 o x1 x2 x3 x4 σ))))
set_option maxRecDepth 100000 in
set_option maxHeartbeats 1000000 in
theorem c_X4_noteTrap {nx : Nat} (o : Nat) (x1 : Int32) (x2 : Int32) (x3 : Int32) (x4 : Int32) (σ : zS) (hp : p_X4_noteTrap o x1 x2 x3 x4 σ) : zCl 2 zall nx zall nx 80 [.inr (4, 17, o), .inl x1, .inl x2, .inl x3, .inl x4] σ (fun v σ1 => v = none ∧ σ1 = s_X4_noteTrap o x1 x2 x3 x4 σ) := by
  refine zmeth (cd := kX4_noteTrap) [] 1000 (Nat.le_of_ble_eq_true rfl) rfl okX4_noteTrap (Nat.le_refl _) (Nat.le_of_ble_eq_true rfl) ?_
  refine And.intro (by decide) ?_
  refine zCl.use (c_X8_put 100 (o + 3) (((σ.1 o 10) - (σ.1 o 10) / 20 * 20) * 5) x1 σ hp.1) (Nat.le_of_ble_eq_true rfl) ?_
  rintro _ σz ⟨rfl, hz⟩
  subst σz
  refine zCl.use (c_X8_put 100 (o + 3) ((((σ.1 o 10) - (σ.1 o 10) / 20 * 20) * 5) + 1) x2 (u_X4_noteTrap_1 o x1 x2 x3 x4 σ) hp.2.1) (Nat.le_of_ble_eq_true rfl) ?_
  rintro _ σz ⟨rfl, hz⟩
  subst σz
  refine zCl.use (c_X8_put 100 (o + 3) ((((σ.1 o 10) - (σ.1 o 10) / 20 * 20) * 5) + 2) x3 (u_X4_noteTrap_2 o x1 x2 x3 x4 σ) hp.2.2.1) (Nat.le_of_ble_eq_true rfl) ?_
  rintro _ σz ⟨rfl, hz⟩
  subst σz
  refine zCl.use (c_X8_put 100 (o + 3) ((((σ.1 o 10) - (σ.1 o 10) / 20 * 20) * 5) + 3) x4 (u_X4_noteTrap_3 o x1 x2 x3 x4 σ) hp.2.2.2.1) (Nat.le_of_ble_eq_true rfl) ?_
  rintro _ σz ⟨rfl, hz⟩
  subst σz
  refine zCl.use (c_X8_put 100 (o + 3) ((((σ.1 o 10) - (σ.1 o 10) / 20 * 20) * 5) + 4) ((u_X4_noteTrap_4 o x1 x2 x3 x4 σ).1 o 9) (u_X4_noteTrap_4 o x1 x2 x3 x4 σ) hp.2.2.2.2) (Nat.le_of_ble_eq_true rfl) ?_
  rintro _ σz ⟨rfl, hz⟩
  subst σz
  exact And.intro rfl (And.intro rfl ⟨rfl, by rw [s_X4_noteTrap] <;> rfl⟩)
def u_X5_clear_1 (o : Nat) (σ : zS) : zS := s_X0_clear (o + 1) σ
def u_X5_clear_2 (o : Nat) (σ : zS) : zS := zuI (u_X5_clear_1 o σ) o 1 0
def u_X5_clear_3 (o : Nat) (σ : zS) : zS := zuI (u_X5_clear_2 o σ) o 2 0
def u_X5_clear_4 (o : Nat) (σ : zS) : zS := zuI (u_X5_clear_3 o σ) o 3 (-1)
def u_X5_clear_5 (o : Nat) (σ : zS) : zS := zuI (u_X5_clear_4 o σ) o 4 0
def u_X5_clear_6 (o : Nat) (σ : zS) : zS := zuI (u_X5_clear_5 o σ) o 5 0
def u_X5_clear_7 (o : Nat) (σ : zS) : zS := zuI (u_X5_clear_6 o σ) o 8 0
def u_X5_clear_8 (o : Nat) (σ : zS) : zS := zuI (u_X5_clear_7 o σ) o 9 0
def u_X5_clear_9 (o : Nat) (σ : zS) : zS := zuI (u_X5_clear_8 o σ) o 10 0
def u_X5_clear_10 (o : Nat) (σ : zS) : zS := zuI (u_X5_clear_9 o σ) o 11 0
def u_X5_clear_11 (o : Nat) (σ : zS) : zS := s_X5_forgetGuesses o (u_X5_clear_10 o σ)
def s_X5_clear (o : Nat) (σ : zS) : zS := (u_X5_clear_11 o σ)
set_option maxRecDepth 100000 in
set_option maxHeartbeats 1000000 in
theorem c_X5_clear {nx : Nat} (o : Nat) (σ : zS) : zCl 2 zall nx zall nx 84 [.inr (5, 12, o)] σ (fun v σ1 => v = none ∧ σ1 = s_X5_clear o σ) := by
  refine zmeth (cd := kX5_clear) [] 1000 (Nat.le_of_ble_eq_true rfl) rfl okX5_clear (Nat.le_refl _) (Nat.le_of_ble_eq_true rfl) ?_
  refine zCl.use (c_X0_clear (o + 1) σ) (Nat.le_of_ble_eq_true rfl) ?_
  rintro _ σz ⟨rfl, hz⟩
  subst σz
  refine zCl.use (c_X5_forgetGuesses o (u_X5_clear_10 o σ)) (Nat.le_of_ble_eq_true rfl) ?_
  rintro _ σz ⟨rfl, hz⟩
  subst σz
  exact And.intro rfl (And.intro rfl ⟨rfl, by rw [s_X5_clear] <;> rfl⟩)
def l_X6_sameWords (N : Nat) : Nat → Int32 → Int32 → Int32 → Int32 → Int32 → zS → Int32
  | 0, _, _, _, _, _, σ => 0
  | n + 1, v1, v2, v3, v4, v5, σ => if (v2 - v1) ≤ v5 then 1 else (if (f_X8_at ((zlay (σ.2 3 0 - 1)).2) (σ.2 3 0 - 1) (v1 + v5) σ) = (f_X8_at ((zlay (σ.2 3 0 - 1)).2) (σ.2 3 0 - 1) (v3 + v5) σ) then (l_X6_sameWords N n v1 v2 v3 v4 (v5 + 1) σ) else 0)
def q_X6_sameWords (N : Nat) : Nat → Int32 → Int32 → Int32 → Int32 → Int32 → zS → Prop
  | 0, _, _, _, _, _, _ => False
  | n + 1, v1, v2, v3, v4, v5, σ => ¬ (v2 - v1) ≤ v5 → ((σ.2 3 0 ≠ 0 ∧ (zlay (σ.2 3 0 - 1)).1 = 20) ∧ (p_X8_at ((zlay (σ.2 3 0 - 1)).2) (σ.2 3 0 - 1) (v1 + v5) σ ∧ (p_X8_at ((zlay (σ.2 3 0 - 1)).2) (σ.2 3 0 - 1) (v3 + v5) σ ∧ ((f_X8_at ((zlay (σ.2 3 0 - 1)).2) (σ.2 3 0 - 1) (v1 + v5) σ) = (f_X8_at ((zlay (σ.2 3 0 - 1)).2) (σ.2 3 0 - 1) (v3 + v5) σ) → q_X6_sameWords N n v1 v2 v3 v4 (v5 + 1) σ))))
set_option maxRecDepth 100000 in
set_option maxHeartbeats 1000000 in
theorem w_X6_sameWords {cp : Nat → Bool} {nx : Nat} (N : Nat) : ∀ n : Nat, (∀ (v1 : Int32) (v2 : Int32) (v3 : Int32) (v4 : Int32) (v5 : Int32) (σ : zS), q_X6_sameWords N n v1 v2 v3 v4 v5 σ → zWp 2 cp nx 93 (fun v σ1 => v = some (.inl (l_X6_sameWords N n v1 v2 v3 v4 v5 σ)) ∧ σ1 = σ) cp nx 15 [some (.inr (6, 6, 3)), some (.inl v1), some (.inl v2), some (.inl v3), some (.inl v4), some (.inl v5)] [] σ) := by
  intro n
  induction n with
  | zero => exact fun _ _ _ _ _ _ h => h.elim
  | succ n ih =>
    intro v1 v2 v3 v4 v5 σ hp
    rw [q_X6_sameWords] at hp
    refine zvc_sound (cd := kX6_sameWords) (cs := [15]) rfl okX6_sameWords 1000 _ _ 15 (zseek kX6_sameWords 15) _ _ _ zseek_sub ?_
    refine And.intro (fun (h1 : (v2 - v1) ≤ v5) => ?_) (fun (h1 : ¬ (v2 - v1) ≤ v5) => ?_)
    · exact And.intro rfl (And.intro rfl (And.intro (Or.inr rfl) ⟨by rw [l_X6_sameWords, if_pos h1] <;> rfl, rfl⟩))
    · refine And.intro (hp h1).1.1 (fun q902 (e2 : σ.2 3 0 = q902 + 1) => ?_)
      have g2 : q902 = (σ.2 3 0 - 1) := by omega
      subst g2
      rw [(hp h1).1.2]
      refine zCl.use (c_X8_at ((zlay (σ.2 3 0 - 1)).2) (σ.2 3 0 - 1) (v1 + v5) σ (hp h1).2.1) (Nat.le_of_ble_eq_true rfl) ?_
      rintro _ σz ⟨rfl, hz⟩
      subst σz
      refine And.intro (hp h1).1.1 (fun q903 (e3 : σ.2 3 0 = q903 + 1) => ?_)
      have g3 : q903 = (σ.2 3 0 - 1) := by omega
      subst g3
      rw [(hp h1).1.2]
      refine zCl.use (c_X8_at ((zlay (σ.2 3 0 - 1)).2) (σ.2 3 0 - 1) (v3 + v5) σ (hp h1).2.2.1) (Nat.le_of_ble_eq_true rfl) ?_
      rintro _ σz ⟨rfl, hz⟩
      subst σz
      refine And.intro (fun (h4 : (f_X8_at ((zlay (σ.2 3 0 - 1)).2) (σ.2 3 0 - 1) (v1 + v5) σ) = (f_X8_at ((zlay (σ.2 3 0 - 1)).2) (σ.2 3 0 - 1) (v3 + v5) σ)) => ?_) (fun (h4 : ¬ (f_X8_at ((zlay (σ.2 3 0 - 1)).2) (σ.2 3 0 - 1) (v1 + v5) σ) = (f_X8_at ((zlay (σ.2 3 0 - 1)).2) (σ.2 3 0 - 1) (v3 + v5) σ)) => ?_)
      · refine zWp.use (ih v1 v2 v3 v4 (v5 + 1) σ ((hp h1).2.2.2 h4)) (And.intro rfl (And.intro rfl (And.intro rfl (And.intro rfl (And.intro rfl (And.intro rfl trivial)))))) (fun vy σy hy => ?_)
        rw [l_X6_sameWords, if_neg h1, if_pos h4]; exact hy
      · exact And.intro rfl (And.intro rfl (And.intro (Or.inl rfl) ⟨by rw [l_X6_sameWords, if_neg h1, if_neg h4] <;> rfl, rfl⟩))
def f_X6_sameWords (x1 : Int32) (x2 : Int32) (x3 : Int32) (x4 : Int32) (N : Nat) (σ : zS) : Int32 := if (x2 - x1) = (x4 - x3) then (l_X6_sameWords N N x1 x2 x3 x4 0 σ) else 0
def p_X6_sameWords (x1 : Int32) (x2 : Int32) (x3 : Int32) (x4 : Int32) (N : Nat) (σ : zS) : Prop := (x2 - x1) = (x4 - x3) → q_X6_sameWords N N x1 x2 x3 x4 0 σ
set_option maxRecDepth 100000 in
set_option maxHeartbeats 1000000 in
theorem c_X6_sameWords {cp : Nat → Bool} {nx : Nat} (x1 : Int32) (x2 : Int32) (x3 : Int32) (x4 : Int32) (N : Nat) (σ : zS) (hp : p_X6_sameWords x1 x2 x3 x4 N σ) : zCl 2 cp nx cp nx 93 [.inr (6, 6, 3), .inl x1, .inl x2, .inl x3, .inl x4] σ (fun v σ1 => v = some (.inl (f_X6_sameWords x1 x2 x3 x4 N σ)) ∧ σ1 = σ) := by
  refine zmeth (cd := kX6_sameWords) [15] 1000 (Nat.le_of_ble_eq_true rfl) rfl okX6_sameWords (Nat.le_refl _) (Nat.le_of_ble_eq_true rfl) ?_
  refine And.intro (fun (h1 : (x2 - x1) = (x4 - x3)) => ?_) (fun (h1 : ¬ (x2 - x1) = (x4 - x3)) => ?_)
  · refine zWp.use ((w_X6_sameWords N N) x1 x2 x3 x4 0 σ (hp h1)) (And.intro rfl (And.intro rfl (And.intro rfl (And.intro rfl (And.intro rfl (And.intro rfl trivial)))))) (fun vy σy hy => ?_)
    rw [f_X6_sameWords, if_pos h1]; exact hy
  · exact And.intro rfl (And.intro rfl (And.intro (Or.inl rfl) ⟨by rw [f_X6_sameWords, if_neg h1] <;> rfl, rfl⟩))
def u_X6_skipWord_h0_1 (N : Nat) (σ : zS) : zS := zuI σ 3 4 ((σ.1 3 4) + 1)
def l_X6_skipWord (N : Nat) : Nat → zS → zS
  | 0, σ => σ
  | n + 1, σ => if (σ.1 3 1) ≤ (σ.1 3 4) then σ else (if (f_X6_isLetter (f_X8_at ((zlay (σ.2 3 0 - 1)).2) (σ.2 3 0 - 1) (σ.1 3 4) σ)) = 0 then σ else (l_X6_skipWord N n (u_X6_skipWord_h0_1 N σ)))
def q_X6_skipWord (N : Nat) : Nat → zS → Prop
  | 0, _ => False
  | n + 1, σ => ¬ (σ.1 3 1) ≤ (σ.1 3 4) → ((σ.2 3 0 ≠ 0 ∧ (zlay (σ.2 3 0 - 1)).1 = 20) ∧ (p_X8_at ((zlay (σ.2 3 0 - 1)).2) (σ.2 3 0 - 1) (σ.1 3 4) σ ∧ (¬ (f_X6_isLetter (f_X8_at ((zlay (σ.2 3 0 - 1)).2) (σ.2 3 0 - 1) (σ.1 3 4) σ)) = 0 → q_X6_skipWord N n (u_X6_skipWord_h0_1 N σ))))
set_option maxRecDepth 100000 in
set_option maxHeartbeats 1000000 in
theorem w_X6_skipWord {cp : Nat → Bool} {nx : Nat} (N : Nat) : ∀ n : Nat, (∀ (σ : zS), q_X6_skipWord N n σ → zWp 2 cp nx 94 (fun v σ1 => v = none ∧ σ1 = l_X6_skipWord N n σ) cp nx 0 [some (.inr (6, 6, 3))] [] σ) := by
  intro n
  induction n with
  | zero => exact fun _ h => h.elim
  | succ n ih =>
    intro σ hp
    rw [q_X6_skipWord] at hp
    refine zvc_sound (cd := kX6_skipWord) (cs := [0]) rfl okX6_skipWord 1000 _ _ 0 (zseek kX6_skipWord 0) _ _ _ zseek_sub ?_
    refine And.intro (fun (h1 : (σ.1 3 1) ≤ (σ.1 3 4)) => ?_) (fun (h1 : ¬ (σ.1 3 1) ≤ (σ.1 3 4)) => ?_)
    · exact And.intro rfl (And.intro rfl ⟨rfl, by rw [l_X6_skipWord, if_pos h1] <;> rfl⟩)
    · refine And.intro (hp h1).1.1 (fun q902 (e2 : σ.2 3 0 = q902 + 1) => ?_)
      have g2 : q902 = (σ.2 3 0 - 1) := by omega
      subst g2
      rw [(hp h1).1.2]
      refine zCl.use (c_X8_at ((zlay (σ.2 3 0 - 1)).2) (σ.2 3 0 - 1) (σ.1 3 4) σ (hp h1).2.1) (Nat.le_of_ble_eq_true rfl) ?_
      rintro _ σz ⟨rfl, hz⟩
      subst σz
      refine zCl.use (c_X6_isLetter (f_X8_at ((zlay (σ.2 3 0 - 1)).2) (σ.2 3 0 - 1) (σ.1 3 4) σ) σ) (Nat.le_of_ble_eq_true rfl) ?_
      rintro _ σz ⟨rfl, hz⟩
      subst σz
      refine And.intro (fun (h3 : (f_X6_isLetter (f_X8_at ((zlay (σ.2 3 0 - 1)).2) (σ.2 3 0 - 1) (σ.1 3 4) σ)) = 0) => ?_) (fun (h3 : ¬ (f_X6_isLetter (f_X8_at ((zlay (σ.2 3 0 - 1)).2) (σ.2 3 0 - 1) (σ.1 3 4) σ)) = 0) => ?_)
      · exact And.intro rfl (And.intro rfl ⟨rfl, by rw [l_X6_skipWord, if_neg h1, if_pos h3] <;> rfl⟩)
      · refine zWp.use (ih (u_X6_skipWord_h0_1 N σ) ((hp h1).2.2 h3)) (And.intro rfl trivial) (fun vy σy hy => ?_)
        rw [l_X6_skipWord, if_neg h1, if_neg h3]; exact hy
def s_X6_skipWord (N : Nat) (σ : zS) : zS := l_X6_skipWord N N σ
def p_X6_skipWord (N : Nat) (σ : zS) : Prop := q_X6_skipWord N N σ
set_option maxRecDepth 100000 in
set_option maxHeartbeats 1000000 in
theorem c_X6_skipWord {cp : Nat → Bool} {nx : Nat} (N : Nat) (σ : zS) (hp : p_X6_skipWord N σ) : zCl 2 cp nx cp nx 94 [.inr (6, 6, 3)] σ (fun v σ1 => v = none ∧ σ1 = s_X6_skipWord N σ) := by
  refine zCl.of (Nat.le_of_ble_eq_true rfl) (Nat.le_refl _) (Nat.le_of_ble_eq_true rfl) ?_
  refine zWp.use ((w_X6_skipWord N N) σ hp) (And.intro rfl trivial) (fun vy σy hy => ?_)
  rw [s_X6_skipWord]; exact hy
def u_X6_readNumber_h0_1 (N : Nat) (σ : zS) : zS := zuI σ 3 5 (if 10000 < ((((σ.1 3 5) * 10) + (f_X8_at ((zlay (σ.2 3 0 - 1)).2) (σ.2 3 0 - 1) (σ.1 3 4) σ)) - 48) then 10000 else ((((σ.1 3 5) * 10) + (f_X8_at ((zlay (σ.2 3 0 - 1)).2) (σ.2 3 0 - 1) (σ.1 3 4) σ)) - 48))
def u_X6_readNumber_h0_2 (N : Nat) (σ : zS) : zS := zuI (u_X6_readNumber_h0_1 N σ) 3 4 (((u_X6_readNumber_h0_1 N σ).1 3 4) + 1)
def l_X6_readNumber (N : Nat) : Nat → zS → zS
  | 0, σ => σ
  | n + 1, σ => if (σ.1 3 1) ≤ (σ.1 3 4) then σ else (if (f_X6_isDigit (f_X8_at ((zlay (σ.2 3 0 - 1)).2) (σ.2 3 0 - 1) (σ.1 3 4) σ)) = 0 then σ else (l_X6_readNumber N n (u_X6_readNumber_h0_2 N σ)))
def q_X6_readNumber (N : Nat) : Nat → zS → Prop
  | 0, _ => False
  | n + 1, σ => ¬ (σ.1 3 1) ≤ (σ.1 3 4) → ((σ.2 3 0 ≠ 0 ∧ (zlay (σ.2 3 0 - 1)).1 = 20) ∧ (p_X8_at ((zlay (σ.2 3 0 - 1)).2) (σ.2 3 0 - 1) (σ.1 3 4) σ ∧ (¬ (f_X6_isDigit (f_X8_at ((zlay (σ.2 3 0 - 1)).2) (σ.2 3 0 - 1) (σ.1 3 4) σ)) = 0 → (p_X8_at ((zlay (σ.2 3 0 - 1)).2) (σ.2 3 0 - 1) (σ.1 3 4) σ ∧ q_X6_readNumber N n (u_X6_readNumber_h0_2 N σ)))))
set_option maxRecDepth 100000 in
set_option maxHeartbeats 1000000 in
theorem w_X6_readNumber {cp : Nat → Bool} {nx : Nat} (N : Nat) : ∀ n : Nat, (∀ (σ : zS), q_X6_readNumber N n σ → zWp 2 cp nx 95 (fun v σ1 => v = none ∧ σ1 = l_X6_readNumber N n σ) cp nx 5 [some (.inr (6, 6, 3))] [] σ) := by
  intro n
  induction n with
  | zero => exact fun _ h => h.elim
  | succ n ih =>
    intro σ hp
    rw [q_X6_readNumber] at hp
    refine zvc_sound (cd := kX6_readNumber) (cs := [5]) rfl okX6_readNumber 1000 _ _ 5 (zseek kX6_readNumber 5) _ _ _ zseek_sub ?_
    refine And.intro (fun (h1 : (σ.1 3 1) ≤ (σ.1 3 4)) => ?_) (fun (h1 : ¬ (σ.1 3 1) ≤ (σ.1 3 4)) => ?_)
    · exact And.intro rfl (And.intro rfl ⟨rfl, by rw [l_X6_readNumber, if_pos h1] <;> rfl⟩)
    · refine And.intro (hp h1).1.1 (fun q902 (e2 : σ.2 3 0 = q902 + 1) => ?_)
      have g2 : q902 = (σ.2 3 0 - 1) := by omega
      subst g2
      rw [(hp h1).1.2]
      refine zCl.use (c_X8_at ((zlay (σ.2 3 0 - 1)).2) (σ.2 3 0 - 1) (σ.1 3 4) σ (hp h1).2.1) (Nat.le_of_ble_eq_true rfl) ?_
      rintro _ σz ⟨rfl, hz⟩
      subst σz
      refine zCl.use (c_X6_isDigit (f_X8_at ((zlay (σ.2 3 0 - 1)).2) (σ.2 3 0 - 1) (σ.1 3 4) σ) σ) (Nat.le_of_ble_eq_true rfl) ?_
      rintro _ σz ⟨rfl, hz⟩
      subst σz
      refine And.intro (fun (h3 : (f_X6_isDigit (f_X8_at ((zlay (σ.2 3 0 - 1)).2) (σ.2 3 0 - 1) (σ.1 3 4) σ)) = 0) => ?_) (fun (h3 : ¬ (f_X6_isDigit (f_X8_at ((zlay (σ.2 3 0 - 1)).2) (σ.2 3 0 - 1) (σ.1 3 4) σ)) = 0) => ?_)
      · exact And.intro rfl (And.intro rfl ⟨rfl, by rw [l_X6_readNumber, if_neg h1, if_pos h3] <;> rfl⟩)
      · refine And.intro (hp h1).1.1 (fun q904 (e4 : σ.2 3 0 = q904 + 1) => ?_)
        have g4 : q904 = (σ.2 3 0 - 1) := by omega
        subst g4
        rw [(hp h1).1.2]
        refine zCl.use (c_X8_at ((zlay (σ.2 3 0 - 1)).2) (σ.2 3 0 - 1) (σ.1 3 4) σ ((hp h1).2.2 h3).1) (Nat.le_of_ble_eq_true rfl) ?_
        rintro _ σz ⟨rfl, hz⟩
        subst σz
        refine zWp.use (ih (u_X6_readNumber_h0_2 N σ) ((hp h1).2.2 h3).2) (And.intro rfl trivial) (fun vy σy hy => ?_)
        rw [l_X6_readNumber, if_neg h1, if_neg h3]; exact hy
def u_X6_readNumber_1 (N : Nat) (σ : zS) : zS := zuI σ 3 5 0
def s_X6_readNumber (N : Nat) (σ : zS) : zS := l_X6_readNumber N N (u_X6_readNumber_1 N σ)
def p_X6_readNumber (N : Nat) (σ : zS) : Prop := q_X6_readNumber N N (u_X6_readNumber_1 N σ)
set_option maxRecDepth 100000 in
set_option maxHeartbeats 1000000 in
theorem c_X6_readNumber {cp : Nat → Bool} {nx : Nat} (N : Nat) (σ : zS) (hp : p_X6_readNumber N σ) : zCl 2 cp nx cp nx 95 [.inr (6, 6, 3)] σ (fun v σ1 => v = none ∧ σ1 = s_X6_readNumber N σ) := by
  refine zmeth (cd := kX6_readNumber) [5] 1000 (Nat.le_of_ble_eq_true rfl) rfl okX6_readNumber (Nat.le_refl _) (Nat.le_of_ble_eq_true rfl) ?_
  refine zWp.use ((w_X6_readNumber N N) (u_X6_readNumber_1 N σ) hp) (And.intro rfl trivial) (fun vy σy hy => ?_)
  rw [s_X6_readNumber]; exact hy
def l_X7_timesAt (o : Nat) (N : Nat) : Nat → Int32 → Int32 → Int32 → Int32 → zS → Int32
  | 0, _, _, _, _, σ => 0
  | n + 1, v1, v2, v3, v4, σ => if (σ.1 o 2) ≤ v4 then v2 else (if (f_X8_at 3000 (o + 5) v4 σ) = v1 then (if (f_X8_at 3000 (o + 5) v4 σ) ≤ v3 then (l_X7_timesAt o N n v1 (v2 + 0) (f_X8_at 3000 (o + 5) v4 σ) (v4 + 1) σ) else (l_X7_timesAt o N n v1 (v2 + 1) (f_X8_at 3000 (o + 5) v4 σ) (v4 + 1) σ)) else (l_X7_timesAt o N n v1 (v2 + 0) (f_X8_at 3000 (o + 5) v4 σ) (v4 + 1) σ))
def q_X7_timesAt (o : Nat) (N : Nat) : Nat → Int32 → Int32 → Int32 → Int32 → zS → Prop
  | 0, _, _, _, _, _ => False
  | n + 1, v1, v2, v3, v4, σ => ¬ (σ.1 o 2) ≤ v4 → (p_X8_at 3000 (o + 5) v4 σ ∧ ((¬ (f_X8_at 3000 (o + 5) v4 σ) = v1 → q_X7_timesAt o N n v1 (v2 + 0) (f_X8_at 3000 (o + 5) v4 σ) (v4 + 1) σ) ∧ ((f_X8_at 3000 (o + 5) v4 σ) = v1 → (((f_X8_at 3000 (o + 5) v4 σ) ≤ v3 → q_X7_timesAt o N n v1 (v2 + 0) (f_X8_at 3000 (o + 5) v4 σ) (v4 + 1) σ) ∧ (¬ (f_X8_at 3000 (o + 5) v4 σ) ≤ v3 → q_X7_timesAt o N n v1 (v2 + 1) (f_X8_at 3000 (o + 5) v4 σ) (v4 + 1) σ)))))
set_option maxRecDepth 100000 in
set_option maxHeartbeats 1000000 in
theorem w_X7_timesAt {nx : Nat} (o : Nat) (N : Nat) : ∀ n : Nat, (∀ (v1 : Int32) (v2 : Int32) (v3 : Int32) (v4 : Int32) (σ : zS), q_X7_timesAt o N n v1 v2 v3 v4 σ → zWp 2 zall nx 107 (fun v σ1 => v = some (.inl (l_X7_timesAt o N n v1 v2 v3 v4 σ)) ∧ σ1 = σ) zall nx 7 [some (.inr (7, 5, o)), some (.inl v1), some (.inl v2), some (.inl v3), some (.inl v4), none] [] σ) := by
  intro n
  induction n with
  | zero => exact fun _ _ _ _ _ h => h.elim
  | succ n ih =>
    intro v1 v2 v3 v4 σ hp
    rw [q_X7_timesAt] at hp
    refine zvc_sound (cd := kX7_timesAt) (cs := [7]) rfl okX7_timesAt 1000 _ _ 7 (zseek kX7_timesAt 7) _ _ _ zseek_sub ?_
    refine And.intro (fun (h1 : (σ.1 o 2) ≤ v4) => ?_) (fun (h1 : ¬ (σ.1 o 2) ≤ v4) => ?_)
    · exact And.intro rfl (And.intro rfl ⟨by rw [l_X7_timesAt, if_pos h1] <;> rfl, rfl⟩)
    · refine zCl.use (c_X8_at 3000 (o + 5) v4 σ (hp h1).1) (Nat.le_of_ble_eq_true rfl) ?_
      rintro _ σz ⟨rfl, hz⟩
      subst σz
      refine And.intro (fun (h2 : ¬ (f_X8_at 3000 (o + 5) v4 σ) = v1) => ?_) (fun (h2 : (f_X8_at 3000 (o + 5) v4 σ) = v1) => ?_)
      · refine zWp.use (ih v1 (v2 + 0) (f_X8_at 3000 (o + 5) v4 σ) (v4 + 1) σ ((hp h1).2.1 h2)) (And.intro rfl (And.intro rfl (And.intro rfl (And.intro rfl (And.intro rfl trivial))))) (fun vy σy hy => ?_)
        rw [l_X7_timesAt, if_neg h1, if_neg h2]; exact hy
      · refine And.intro (fun (h3 : (f_X8_at 3000 (o + 5) v4 σ) ≤ v3) => ?_) (fun (h3 : ¬ (f_X8_at 3000 (o + 5) v4 σ) ≤ v3) => ?_)
        · refine zWp.use (ih v1 (v2 + 0) (f_X8_at 3000 (o + 5) v4 σ) (v4 + 1) σ (((hp h1).2.2 h2).1 h3)) (And.intro rfl (And.intro rfl (And.intro rfl (And.intro rfl (And.intro rfl trivial))))) (fun vy σy hy => ?_)
          rw [l_X7_timesAt, if_neg h1, if_pos h2, if_pos h3]; exact hy
        · refine zWp.use (ih v1 (v2 + 1) (f_X8_at 3000 (o + 5) v4 σ) (v4 + 1) σ (((hp h1).2.2 h2).2 h3)) (And.intro rfl (And.intro rfl (And.intro rfl (And.intro rfl (And.intro rfl trivial))))) (fun vy σy hy => ?_)
          rw [l_X7_timesAt, if_neg h1, if_pos h2, if_neg h3]; exact hy
def f_X7_timesAt (o : Nat) (x1 : Int32) (N : Nat) (σ : zS) : Int32 := l_X7_timesAt o N N x1 0 0 0 σ
def p_X7_timesAt (o : Nat) (x1 : Int32) (N : Nat) (σ : zS) : Prop := q_X7_timesAt o N N x1 0 0 0 σ
set_option maxRecDepth 100000 in
set_option maxHeartbeats 1000000 in
theorem c_X7_timesAt {nx : Nat} (o : Nat) (x1 : Int32) (N : Nat) (σ : zS) (hp : p_X7_timesAt o x1 N σ) : zCl 2 zall nx zall nx 107 [.inr (7, 5, o), .inl x1] σ (fun v σ1 => v = some (.inl (f_X7_timesAt o x1 N σ)) ∧ σ1 = σ) := by
  refine zmeth (cd := kX7_timesAt) [7] 1000 (Nat.le_of_ble_eq_true rfl) rfl okX7_timesAt (Nat.le_refl _) (Nat.le_of_ble_eq_true rfl) ?_
  refine zWp.use ((w_X7_timesAt o N N) x1 0 0 0 σ hp) (And.intro rfl (And.intro rfl (And.intro rfl (And.intro rfl (And.intro rfl trivial))))) (fun vy σy hy => ?_)
  rw [f_X7_timesAt]; exact hy
def u_X8_feed_1 (x1 : Int32) (x2 : Int32) (x3 : Int32) (x4 : Int32) (x5 : Int32) (N : Nat) (σ : zS) : zS := s_X8_feedFour x1 N σ
def u_X8_feed_2 (x1 : Int32) (x2 : Int32) (x3 : Int32) (x4 : Int32) (x5 : Int32) (N : Nat) (σ : zS) : zS := s_X8_feedFour x2 N (u_X8_feed_1 x1 x2 x3 x4 x5 N σ)
def u_X8_feed_3 (x1 : Int32) (x2 : Int32) (x3 : Int32) (x4 : Int32) (x5 : Int32) (N : Nat) (σ : zS) : zS := s_X8_feedFour x3 N (u_X8_feed_2 x1 x2 x3 x4 x5 N σ)
def u_X8_feed_4 (x1 : Int32) (x2 : Int32) (x3 : Int32) (x4 : Int32) (x5 : Int32) (N : Nat) (σ : zS) : zS := s_X8_feedFour x4 N (u_X8_feed_3 x1 x2 x3 x4 x5 N σ)
def u_X8_feed_5 (x1 : Int32) (x2 : Int32) (x3 : Int32) (x4 : Int32) (x5 : Int32) (N : Nat) (σ : zS) : zS := s_X8_feedFour x5 N (u_X8_feed_4 x1 x2 x3 x4 x5 N σ)
def r_X8_feed (x1 : Int32) (x2 : Int32) (x3 : Int32) (x4 : Int32) (x5 : Int32) (N : Nat) (σ : zS) : Int32 × zS := if (σ.1 0 1) ≤ 980 then ((u_X8_feed_5 x1 x2 x3 x4 x5 N σ).1 0 1, (u_X8_feed_5 x1 x2 x3 x4 x5 N σ)) else (-1, σ)
def p_X8_feed (x1 : Int32) (x2 : Int32) (x3 : Int32) (x4 : Int32) (x5 : Int32) (N : Nat) (σ : zS) : Prop := (σ.1 0 1) ≤ 980 → (p_X8_feedFour x1 N σ ∧ (p_X8_feedFour x2 N (u_X8_feed_1 x1 x2 x3 x4 x5 N σ) ∧ (p_X8_feedFour x3 N (u_X8_feed_2 x1 x2 x3 x4 x5 N σ) ∧ (p_X8_feedFour x4 N (u_X8_feed_3 x1 x2 x3 x4 x5 N σ) ∧ p_X8_feedFour x5 N (u_X8_feed_4 x1 x2 x3 x4 x5 N σ)))))
set_option maxRecDepth 100000 in
set_option maxHeartbeats 1000000 in
theorem c_X8_feed {nx : Nat} (x1 : Int32) (x2 : Int32) (x3 : Int32) (x4 : Int32) (x5 : Int32) (N : Nat) (σ : zS) (hp : p_X8_feed x1 x2 x3 x4 x5 N σ) : zCl 3 zall nx zall nx 109 [.inr (8, 16, 0), .inl x1, .inl x2, .inl x3, .inl x4, .inl x5] σ (fun v σ1 => v = some (.inl ((r_X8_feed x1 x2 x3 x4 x5 N σ).1)) ∧ σ1 = (r_X8_feed x1 x2 x3 x4 x5 N σ).2) := by
  refine zmeth (cd := kX8_feed) [] 1000 (Nat.le_of_ble_eq_true rfl) rfl okX8_feed (Nat.le_refl _) (Nat.le_of_ble_eq_true rfl) ?_
  refine And.intro (fun (h1 : (σ.1 0 1) ≤ 980) => ?_) (fun (h1 : ¬ (σ.1 0 1) ≤ 980) => ?_)
  · refine zCl.use (c_X8_feedFour x1 N σ (hp h1).1) (Nat.le_of_ble_eq_true rfl) ?_
    rintro _ σz ⟨rfl, hz⟩
    subst σz
    refine zCl.use (c_X8_feedFour x2 N (u_X8_feed_1 x1 x2 x3 x4 x5 N σ) (hp h1).2.1) (Nat.le_of_ble_eq_true rfl) ?_
    rintro _ σz ⟨rfl, hz⟩
    subst σz
    refine zCl.use (c_X8_feedFour x3 N (u_X8_feed_2 x1 x2 x3 x4 x5 N σ) (hp h1).2.2.1) (Nat.le_of_ble_eq_true rfl) ?_
    rintro _ σz ⟨rfl, hz⟩
    subst σz
    refine zCl.use (c_X8_feedFour x4 N (u_X8_feed_3 x1 x2 x3 x4 x5 N σ) (hp h1).2.2.2.1) (Nat.le_of_ble_eq_true rfl) ?_
    rintro _ σz ⟨rfl, hz⟩
    subst σz
    refine zCl.use (c_X8_feedFour x5 N (u_X8_feed_4 x1 x2 x3 x4 x5 N σ) (hp h1).2.2.2.2) (Nat.le_of_ble_eq_true rfl) ?_
    rintro _ σz ⟨rfl, hz⟩
    subst σz
    exact And.intro rfl (And.intro rfl ⟨by rw [r_X8_feed, if_pos h1] <;> rfl, by rw [r_X8_feed, if_pos h1] <;> rfl⟩)
  · exact And.intro rfl (And.intro rfl ⟨by rw [r_X8_feed, if_neg h1] <;> rfl, by rw [r_X8_feed, if_neg h1] <;> rfl⟩)
def f_X8_task (x1 : Int32) (x2 : Int32) (σ : zS) : Int32 := if (f_X8_isTask x1 σ) = 0 then (-100) else (if x2 = 0 then (f_X8_at 4 ((σ.2 0 5 - 1) + 3) x1 σ) else (f_X5_fact (f_X4_taskAt (f_X1_now σ) x1 σ) x2 σ))
def p_X8_task (x1 : Int32) (x2 : Int32) (σ : zS) : Prop := p_X8_isTask x1 σ ∧ (¬ (f_X8_isTask x1 σ) = 0 → ((¬ x2 = 0 → (p_X1_now σ ∧ p_X4_taskAt (f_X1_now σ) x1 σ)) ∧ (x2 = 0 → ((σ.2 0 5 ≠ 0 ∧ zlay (σ.2 0 5 - 1) = (2, 16)) ∧ p_X8_at 4 ((σ.2 0 5 - 1) + 3) x1 σ))))
set_option maxRecDepth 100000 in
set_option maxHeartbeats 1000000 in
theorem c_X8_task {nx : Nat} (x1 : Int32) (x2 : Int32) (σ : zS) (hp : p_X8_task x1 x2 σ) : zCl 2 zall nx zall nx 120 [.inr (8, 16, 0), .inl x1, .inl x2] σ (fun v σ1 => v = some (.inl (f_X8_task x1 x2 σ)) ∧ σ1 = σ) := by
  refine zmeth (cd := kX8_task) [] 1000 (Nat.le_of_ble_eq_true rfl) rfl okX8_task (Nat.le_refl _) (Nat.le_of_ble_eq_true rfl) ?_
  refine zCl.use (c_X8_isTask x1 σ hp.1) (Nat.le_of_ble_eq_true rfl) ?_
  rintro _ σz ⟨rfl, hz⟩
  subst σz
  refine And.intro (fun (h1 : ¬ (f_X8_isTask x1 σ) = 0) => ?_) (fun (h1 : (f_X8_isTask x1 σ) = 0) => ?_)
  · refine And.intro (fun (h2 : ¬ x2 = 0) => ?_) (fun (h2 : x2 = 0) => ?_)
    · refine zCl.use (c_X1_now σ ((hp.2 h1).1 h2).1) (Nat.le_of_ble_eq_true rfl) ?_
      rintro _ σz ⟨rfl, hz⟩
      subst σz
      refine zCl.use (c_X4_taskAt (f_X1_now σ) x1 σ ((hp.2 h1).1 h2).2) (Nat.le_of_ble_eq_true rfl) ?_
      rintro _ σz ⟨rfl, hz⟩
      subst σz
      refine zCl.use (c_X5_fact (f_X4_taskAt (f_X1_now σ) x1 σ) x2 σ) (Nat.le_of_ble_eq_true rfl) ?_
      rintro _ σz ⟨rfl, hz⟩
      subst σz
      exact And.intro rfl (And.intro rfl ⟨by rw [f_X8_task, if_neg h1, if_neg h2] <;> rfl, rfl⟩)
    · refine And.intro ((hp.2 h1).2 h2).1.1 (fun q903 (e3 : σ.2 0 5 = q903 + 1) => ?_)
      have g3 : q903 = (σ.2 0 5 - 1) := by omega
      subst g3
      rw [((hp.2 h1).2 h2).1.2]
      refine zCl.use (c_X8_at 4 ((σ.2 0 5 - 1) + 3) x1 σ ((hp.2 h1).2 h2).2) (Nat.le_of_ble_eq_true rfl) ?_
      rintro _ σz ⟨rfl, hz⟩
      subst σz
      exact And.intro rfl (And.intro rfl ⟨by rw [f_X8_task, if_neg h1, if_pos h2] <;> rfl, rfl⟩)
  · exact And.intro rfl (And.intro rfl ⟨by rw [f_X8_task, if_pos h1] <;> rfl, rfl⟩)
def f_X8_result (x1 : Int32) (σ : zS) : Int32 := if (f_X8_isTask x1 σ) = 0 then 0 else (if (σ.1 (f_X4_taskAt (f_X1_now σ) x1 σ) 1) = 2 then (σ.1 ((f_X4_taskAt (f_X1_now σ) x1 σ) + 1) 3) else 0)
def p_X8_result (x1 : Int32) (σ : zS) : Prop := p_X8_isTask x1 σ ∧ (¬ (f_X8_isTask x1 σ) = 0 → (p_X1_now σ ∧ p_X4_taskAt (f_X1_now σ) x1 σ))
set_option maxRecDepth 100000 in
set_option maxHeartbeats 1000000 in
theorem c_X8_result {nx : Nat} (x1 : Int32) (σ : zS) (hp : p_X8_result x1 σ) : zCl 2 zall nx zall nx 121 [.inr (8, 16, 0), .inl x1] σ (fun v σ1 => v = some (.inl (f_X8_result x1 σ)) ∧ σ1 = σ) := by
  refine zmeth (cd := kX8_result) [] 1000 (Nat.le_of_ble_eq_true rfl) rfl okX8_result (Nat.le_refl _) (Nat.le_of_ble_eq_true rfl) ?_
  refine zCl.use (c_X8_isTask x1 σ hp.1) (Nat.le_of_ble_eq_true rfl) ?_
  rintro _ σz ⟨rfl, hz⟩
  subst σz
  refine And.intro (fun (h1 : ¬ (f_X8_isTask x1 σ) = 0) => ?_) (fun (h1 : (f_X8_isTask x1 σ) = 0) => ?_)
  · refine zCl.use (c_X1_now σ (hp.2 h1).1) (Nat.le_of_ble_eq_true rfl) ?_
    rintro _ σz ⟨rfl, hz⟩
    subst σz
    refine zCl.use (c_X4_taskAt (f_X1_now σ) x1 σ (hp.2 h1).2) (Nat.le_of_ble_eq_true rfl) ?_
    rintro _ σz ⟨rfl, hz⟩
    subst σz
    refine And.intro (fun (h2 : ¬ (σ.1 (f_X4_taskAt (f_X1_now σ) x1 σ) 1) = 2) => ?_) (fun (h2 : (σ.1 (f_X4_taskAt (f_X1_now σ) x1 σ) 1) = 2) => ?_)
    · exact And.intro rfl (And.intro rfl ⟨by rw [f_X8_result, if_neg h1, if_neg h2] <;> rfl, rfl⟩)
    · exact And.intro rfl (And.intro rfl ⟨by rw [f_X8_result, if_neg h1, if_pos h2] <;> rfl, rfl⟩)
  · exact And.intro rfl (And.intro rfl ⟨by rw [f_X8_result, if_pos h1] <;> rfl, rfl⟩)
