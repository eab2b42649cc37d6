/-! printed by wip/whole/dec2.py -/
def f_X0_parameter (o : Nat) (x1 : Int32) (x2 : Int32) (σ : zS) : Int32 := if x1 < 1 then 0 else (if (σ.1 o 0) < x1 then 0 else (if x2 < 0 then 0 else (if x2 < 4 then (f_X8_at 240 (o + 1) (((x1 - 1) * 4) + x2) σ) else 0)))
def p_X0_parameter (o : Nat) (x1 : Int32) (x2 : Int32) (σ : zS) : Prop := ¬ x1 < 1 → (¬ (σ.1 o 0) < x1 → (¬ x2 < 0 → (x2 < 4 → p_X8_at 240 (o + 1) (((x1 - 1) * 4) + x2) σ)))
set_option maxRecDepth 100000 in
set_option maxHeartbeats 1000000 in
theorem c_X0_parameter {nx : Nat} (o : Nat) (x1 : Int32) (x2 : Int32) (σ : zS) (hp : p_X0_parameter o x1 x2 σ) : zCl 2 zall nx zall nx 4 [.inr (0, 9, o), .inl x1, .inl x2] σ (fun v σ1 => v = some (.inl (f_X0_parameter o x1 x2 σ)) ∧ σ1 = σ) := by
  refine zmeth (cd := kX0_parameter) [] 1000 (Nat.le_of_ble_eq_true rfl) rfl okX0_parameter (Nat.le_refl _) (Nat.le_of_ble_eq_true rfl) ?_
  refine And.intro (fun (h1 : x1 < 1) => ?_) (fun (h1 : ¬ x1 < 1) => ?_)
  · exact And.intro rfl (And.intro rfl ⟨by rw [f_X0_parameter, if_pos h1] <;> rfl, rfl⟩)
  · refine And.intro (fun (h2 : (σ.1 o 0) < x1) => ?_) (fun (h2 : ¬ (σ.1 o 0) < x1) => ?_)
    · exact And.intro rfl (And.intro rfl ⟨by rw [f_X0_parameter, if_neg h1, if_pos h2] <;> rfl, rfl⟩)
    · refine And.intro (fun (h3 : x2 < 0) => ?_) (fun (h3 : ¬ x2 < 0) => ?_)
      · exact And.intro rfl (And.intro rfl ⟨by rw [f_X0_parameter, if_neg h1, if_neg h2, if_pos h3] <;> rfl, rfl⟩)
      · refine And.intro (fun (h4 : x2 < 4) => ?_) (fun (h4 : ¬ x2 < 4) => ?_)
        · refine zCl.use (c_X8_at 240 (o + 1) (((x1 - 1) * 4) + x2) σ ((((hp h1) h2) h3) h4)) (Nat.le_of_ble_eq_true rfl) ?_
          rintro _ σz ⟨rfl, hz⟩
          subst σz
          exact And.intro rfl (And.intro rfl ⟨by rw [f_X0_parameter, if_neg h1, if_neg h2, if_neg h3, if_pos h4] <;> rfl, rfl⟩)
        · exact And.intro rfl (And.intro rfl ⟨by rw [f_X0_parameter, if_neg h1, if_neg h2, if_neg h3, if_neg h4] <;> rfl, rfl⟩)
def u_X0_begin_h0_1 (o : Nat) (q1 : Nat) (n3 : Nat) (q3 : Nat) (N : Nat) (v2 : Int32) (v4 : Int32) (v5 : Int32) (σ : zS) : zS := s_X8_put 240 (o + 1) v5 0 σ
def u_X0_begin_h0_2 (o : Nat) (q1 : Nat) (n3 : Nat) (q3 : Nat) (N : Nat) (v2 : Int32) (v4 : Int32) (v5 : Int32) (σ : zS) : zS := s_X8_put 240 (o + 1) v5 (f_X8_at n3 q3 (v4 + v5) σ) σ
def l_X0_begin (o : Nat) (q1 : Nat) (n3 : Nat) (q3 : Nat) (N : Nat) : Nat → Int32 → Int32 → Int32 → zS → zS
  | 0, _, _, _, σ => σ
  | n + 1, v2, v4, v5, σ => if 4 ≤ v5 then σ else (if (f_X8_at 6 (q1 + 2) v2 σ) ≤ v5 then (l_X0_begin o q1 n3 q3 N n v2 v4 (v5 + 1) (u_X0_begin_h0_1 o q1 n3 q3 N v2 v4 v5 σ)) else (l_X0_begin o q1 n3 q3 N n v2 v4 (v5 + 1) (u_X0_begin_h0_2 o q1 n3 q3 N v2 v4 v5 σ)))
def q_X0_begin (o : Nat) (q1 : Nat) (n3 : Nat) (q3 : Nat) (N : Nat) : Nat → Int32 → Int32 → Int32 → zS → Prop
  | 0, _, _, _, _ => False
  | n + 1, v2, v4, v5, σ => ¬ 4 ≤ v5 → (p_X8_at 6 (q1 + 2) v2 σ ∧ (((f_X8_at 6 (q1 + 2) v2 σ) ≤ v5 → (p_X8_put 240 (o + 1) v5 0 σ ∧ q_X0_begin o q1 n3 q3 N n v2 v4 (v5 + 1) (u_X0_begin_h0_1 o q1 n3 q3 N v2 v4 v5 σ))) ∧ (¬ (f_X8_at 6 (q1 + 2) v2 σ) ≤ v5 → (p_X8_at n3 q3 (v4 + v5) σ ∧ (p_X8_put 240 (o + 1) v5 (f_X8_at n3 q3 (v4 + v5) σ) σ ∧ q_X0_begin o q1 n3 q3 N n v2 v4 (v5 + 1) (u_X0_begin_h0_2 o q1 n3 q3 N v2 v4 v5 σ))))))
set_option maxRecDepth 100000 in
set_option maxHeartbeats 1000000 in
theorem w_X0_begin {nx : Nat} (o : Nat) (q1 : Nat) (n3 : Nat) (q3 : Nat) (N : Nat) : ∀ n : Nat, (∀ (v2 : Int32) (v4 : Int32) (v5 : Int32) (σ : zS), q_X0_begin o q1 n3 q3 N n v2 v4 v5 σ → zWp 2 zall nx 5 (fun v σ1 => v = none ∧ σ1 = l_X0_begin o q1 n3 q3 N n v2 v4 v5 σ) zall nx 30 [some (.inr (0, 9, o)), some (.inr (2, 16, q1)), some (.inl v2), some (.inr (20, n3, q3)), some (.inl v4), some (.inl v5)] [] σ) := by
  intro n
  induction n with
  | zero => exact fun _ _ _ _ h => h.elim
  | succ n ih =>
    intro v2 v4 v5 σ hp
    rw [q_X0_begin] at hp
    refine zvc_sound (cd := kX0_begin) (cs := [30]) rfl okX0_begin 1000 _ _ 30 (zseek kX0_begin 30) _ _ _ zseek_sub ?_
    refine And.intro (fun (h1 : 4 ≤ v5) => ?_) (fun (h1 : ¬ 4 ≤ v5) => ?_)
    · exact And.intro rfl (And.intro rfl ⟨rfl, by rw [l_X0_begin, if_pos h1] <;> rfl⟩)
    · refine zCl.use (c_X8_at 6 (q1 + 2) v2 σ (hp h1).1) (Nat.le_of_ble_eq_true rfl) ?_
      rintro _ σz ⟨rfl, hz⟩
      subst σz
      refine And.intro (fun (h2 : (f_X8_at 6 (q1 + 2) v2 σ) ≤ v5) => ?_) (fun (h2 : ¬ (f_X8_at 6 (q1 + 2) v2 σ) ≤ v5) => ?_)
      · refine zCl.use (c_X8_put 240 (o + 1) v5 0 σ ((hp h1).2.1 h2).1) (Nat.le_of_ble_eq_true rfl) ?_
        rintro _ σz ⟨rfl, hz⟩
        subst σz
        refine zWp.use (ih v2 v4 (v5 + 1) (u_X0_begin_h0_1 o q1 n3 q3 N v2 v4 v5 σ) ((hp h1).2.1 h2).2) (And.intro rfl (And.intro rfl (And.intro rfl (And.intro rfl (And.intro rfl (And.intro rfl trivial)))))) (fun vy σy hy => ?_)
        rw [l_X0_begin, if_neg h1, if_pos h2]; exact hy
      · refine zCl.use (c_X8_at n3 q3 (v4 + v5) σ ((hp h1).2.2 h2).1) (Nat.le_of_ble_eq_true rfl) ?_
        rintro _ σz ⟨rfl, hz⟩
        subst σz
        refine zCl.use (c_X8_put 240 (o + 1) v5 (f_X8_at n3 q3 (v4 + v5) σ) σ ((hp h1).2.2 h2).2.1) (Nat.le_of_ble_eq_true rfl) ?_
        rintro _ σz ⟨rfl, hz⟩
        subst σz
        refine zWp.use (ih v2 v4 (v5 + 1) (u_X0_begin_h0_2 o q1 n3 q3 N v2 v4 v5 σ) ((hp h1).2.2 h2).2.2) (And.intro rfl (And.intro rfl (And.intro rfl (And.intro rfl (And.intro rfl (And.intro rfl trivial)))))) (fun vy σy hy => ?_)
        rw [l_X0_begin, if_neg h1, if_neg h2]; exact hy
def u_X0_begin_1 (o : Nat) (q1 : Nat) (x2 : Int32) (n3 : Nat) (q3 : Nat) (x4 : Int32) (N : Nat) (σ : zS) : zS := zuI σ o 0 1
def u_X0_begin_2 (o : Nat) (q1 : Nat) (x2 : Int32) (n3 : Nat) (q3 : Nat) (x4 : Int32) (N : Nat) (σ : zS) : zS := zuI (u_X0_begin_1 o q1 x2 n3 q3 x4 N σ) o 1 (f_X8_at 6 (q1 + 1) x2 (u_X0_begin_1 o q1 x2 n3 q3 x4 N σ))
def u_X0_begin_3 (o : Nat) (q1 : Nat) (x2 : Int32) (n3 : Nat) (q3 : Nat) (x4 : Int32) (N : Nat) (σ : zS) : zS := zuI (u_X0_begin_2 o q1 x2 n3 q3 x4 N σ) o 2 0
def u_X0_begin_4 (o : Nat) (q1 : Nat) (x2 : Int32) (n3 : Nat) (q3 : Nat) (x4 : Int32) (N : Nat) (σ : zS) : zS := zuI (u_X0_begin_3 o q1 x2 n3 q3 x4 N σ) o 3 0
def s_X0_begin (o : Nat) (q1 : Nat) (x2 : Int32) (n3 : Nat) (q3 : Nat) (x4 : Int32) (N : Nat) (σ : zS) : zS := l_X0_begin o q1 n3 q3 N N x2 x4 0 (u_X0_begin_4 o q1 x2 n3 q3 x4 N σ)
def p_X0_begin (o : Nat) (q1 : Nat) (x2 : Int32) (n3 : Nat) (q3 : Nat) (x4 : Int32) (N : Nat) (σ : zS) : Prop := p_X8_at 6 (q1 + 1) x2 (u_X0_begin_1 o q1 x2 n3 q3 x4 N σ) ∧ q_X0_begin o q1 n3 q3 N N x2 x4 0 (u_X0_begin_4 o q1 x2 n3 q3 x4 N σ)
set_option maxRecDepth 100000 in
set_option maxHeartbeats 1000000 in
theorem c_X0_begin {nx : Nat} (o : Nat) (q1 : Nat) (x2 : Int32) (n3 : Nat) (q3 : Nat) (x4 : Int32) (N : Nat) (σ : zS) (hp : p_X0_begin o q1 x2 n3 q3 x4 N σ) : zCl 2 zall nx zall nx 5 [.inr (0, 9, o), .inr (2, 16, q1), .inl x2, .inr (20, n3, q3), .inl x4] σ (fun v σ1 => v = none ∧ σ1 = s_X0_begin o q1 x2 n3 q3 x4 N σ) := by
  refine zmeth (cd := kX0_begin) [30] 1000 (Nat.le_of_ble_eq_true rfl) rfl okX0_begin (Nat.le_refl _) (Nat.le_of_ble_eq_true rfl) ?_
  refine zCl.use (c_X8_at 6 (q1 + 1) x2 (u_X0_begin_1 o q1 x2 n3 q3 x4 N σ) hp.1) (Nat.le_of_ble_eq_true rfl) ?_
  rintro _ σz ⟨rfl, hz⟩
  subst σz
  refine zWp.use ((w_X0_begin o q1 n3 q3 N N) x2 x4 0 (u_X0_begin_4 o q1 x2 n3 q3 x4 N σ) hp.2) (And.intro rfl (And.intro rfl (And.intro rfl (And.intro rfl (And.intro rfl (And.intro rfl trivial)))))) (fun vy σy hy => ?_)
  rw [s_X0_begin]; exact hy
def f_X0_called (o : Nat) (q1 : Nat) (σ : zS) : Int32 := f_X8_at 400 (q1 + 6) (σ.1 o 1) σ
def p_X0_called (o : Nat) (q1 : Nat) (σ : zS) : Prop := p_X8_at 400 (q1 + 6) (σ.1 o 1) σ
set_option maxRecDepth 100000 in
set_option maxHeartbeats 1000000 in
theorem c_X0_called {nx : Nat} (o : Nat) (q1 : Nat) (σ : zS) (hp : p_X0_called o q1 σ) : zCl 2 zall nx zall nx 7 [.inr (0, 9, o), .inr (2, 16, q1)] σ (fun v σ1 => v = some (.inl (f_X0_called o q1 σ)) ∧ σ1 = σ) := by
  refine zmeth (cd := kX0_called) [] 1000 (Nat.le_of_ble_eq_true rfl) rfl okX0_called (Nat.le_refl _) (Nat.le_of_ble_eq_true rfl) ?_
  refine zCl.use (c_X8_at 400 (q1 + 6) (σ.1 o 1) σ hp) (Nat.le_of_ble_eq_true rfl) ?_
  rintro _ σz ⟨rfl, hz⟩
  subst σz
  exact And.intro rfl (And.intro rfl ⟨by rw [f_X0_called] <;> rfl, rfl⟩)
def u_X0_enter_h0_1 (o : Nat) (q1 : Nat) (N : Nat) (v2 : Int32) (v3 : Int32) (v4 : Int32) (v5 : Int32) (σ : zS) : zS := zuI σ o 0 ((σ.1 o 0) + 1)
def u_X0_enter_h0_2 (o : Nat) (q1 : Nat) (N : Nat) (v2 : Int32) (v3 : Int32) (v4 : Int32) (v5 : Int32) (σ : zS) : zS := zuI (u_X0_enter_h0_1 o q1 N v2 v3 v4 v5 σ) o 1 (f_X8_at 6 (q1 + 1) v2 (u_X0_enter_h0_1 o q1 N v2 v3 v4 v5 σ))
def u_X0_enter_h0_3 (o : Nat) (q1 : Nat) (N : Nat) (v2 : Int32) (v3 : Int32) (v4 : Int32) (v5 : Int32) (σ : zS) : zS := s_X8_put 240 (o + 1) (v3 + v5) 0 σ
def u_X0_enter_h0_4 (o : Nat) (q1 : Nat) (N : Nat) (v2 : Int32) (v3 : Int32) (v4 : Int32) (v5 : Int32) (σ : zS) : zS := (r_X0_pop o σ).2
def u_X0_enter_h0_5 (o : Nat) (q1 : Nat) (N : Nat) (v2 : Int32) (v3 : Int32) (v4 : Int32) (v5 : Int32) (σ : zS) : zS := s_X8_put 240 (o + 1) (v3 + v5) ((r_X0_pop o σ).1) (u_X0_enter_h0_4 o q1 N v2 v3 v4 v5 σ)
def l_X0_enter (o : Nat) (q1 : Nat) (N : Nat) : Nat → Int32 → Int32 → Int32 → Int32 → zS → zS
  | 0, _, _, _, _, σ => σ
  | n + 1, v2, v3, v4, v5, σ => if v5 < 0 then (u_X0_enter_h0_2 o q1 N v2 v3 v4 v5 σ) else (if v4 ≤ v5 then (l_X0_enter o q1 N n v2 v3 v4 (v5 + (-1)) (u_X0_enter_h0_3 o q1 N v2 v3 v4 v5 σ)) else (l_X0_enter o q1 N n v2 v3 v4 (v5 + (-1)) (u_X0_enter_h0_5 o q1 N v2 v3 v4 v5 σ)))
def q_X0_enter (o : Nat) (q1 : Nat) (N : Nat) : Nat → Int32 → Int32 → Int32 → Int32 → zS → Prop
  | 0, _, _, _, _, _ => False
  | n + 1, v2, v3, v4, v5, σ => (v5 < 0 → p_X8_at 6 (q1 + 1) v2 (u_X0_enter_h0_1 o q1 N v2 v3 v4 v5 σ)) ∧ (¬ v5 < 0 → ((v4 ≤ v5 → (p_X8_put 240 (o + 1) (v3 + v5) 0 σ ∧ q_X0_enter o q1 N n v2 v3 v4 (v5 + (-1)) (u_X0_enter_h0_3 o q1 N v2 v3 v4 v5 σ))) ∧ (¬ v4 ≤ v5 → (p_X0_pop o σ ∧ (p_X8_put 240 (o + 1) (v3 + v5) ((r_X0_pop o σ).1) (u_X0_enter_h0_4 o q1 N v2 v3 v4 v5 σ) ∧ q_X0_enter o q1 N n v2 v3 v4 (v5 + (-1)) (u_X0_enter_h0_5 o q1 N v2 v3 v4 v5 σ))))))
set_option maxRecDepth 100000 in
set_option maxHeartbeats 1000000 in
theorem w_X0_enter {nx : Nat} (o : Nat) (q1 : Nat) (N : Nat) : ∀ n : Nat, (∀ (v2 : Int32) (v3 : Int32) (v4 : Int32) (v5 : Int32) (σ : zS), q_X0_enter o q1 N n v2 v3 v4 v5 σ → zWp 3 zall nx 8 (fun v σ1 => v = none ∧ σ1 = l_X0_enter o q1 N n v2 v3 v4 v5 σ) zall nx 72 [some (.inr (0, 9, o)), some (.inr (2, 16, q1)), some (.inl v2), some (.inl v3), some (.inl v4), some (.inl v5)] [] σ) := by
  intro n
  induction n with
  | zero => exact fun _ _ _ _ _ h => h.elim
  | succ n ih =>
    intro v2 v3 v4 v5 σ hp
    rw [q_X0_enter] at hp
    refine zvc_sound (cd := kX0_enter) (cs := [72]) rfl okX0_enter 1000 _ _ 72 (zseek kX0_enter 72) _ _ _ zseek_sub ?_
    refine And.intro (fun (h1 : v5 < 0) => ?_) (fun (h1 : ¬ v5 < 0) => ?_)
    · refine zCl.use (c_X8_at 6 (q1 + 1) v2 (u_X0_enter_h0_1 o q1 N v2 v3 v4 v5 σ) (hp.1 h1)) (Nat.le_of_ble_eq_true rfl) ?_
      rintro _ σz ⟨rfl, hz⟩
      subst σz
      exact And.intro rfl (And.intro rfl ⟨rfl, by rw [l_X0_enter, if_pos h1] <;> rfl⟩)
    · refine And.intro (fun (h2 : v4 ≤ v5) => ?_) (fun (h2 : ¬ v4 ≤ v5) => ?_)
      · refine zCl.use (c_X8_put 240 (o + 1) (v3 + v5) 0 σ ((hp.2 h1).1 h2).1) (Nat.le_of_ble_eq_true rfl) ?_
        rintro _ σz ⟨rfl, hz⟩
        subst σz
        refine zWp.use (ih v2 v3 v4 (v5 + (-1)) (u_X0_enter_h0_3 o q1 N v2 v3 v4 v5 σ) ((hp.2 h1).1 h2).2) (And.intro rfl (And.intro rfl (And.intro rfl (And.intro rfl (And.intro rfl (And.intro rfl trivial)))))) (fun vy σy hy => ?_)
        rw [l_X0_enter, if_neg h1, if_pos h2]; exact hy
      · refine zCl.use (c_X0_pop o σ ((hp.2 h1).2 h2).1) (Nat.le_of_ble_eq_true rfl) ?_
        rintro _ σz ⟨rfl, hz⟩
        subst σz
        refine zCl.use (c_X8_put 240 (o + 1) (v3 + v5) ((r_X0_pop o σ).1) (u_X0_enter_h0_4 o q1 N v2 v3 v4 v5 σ) ((hp.2 h1).2 h2).2.1) (Nat.le_of_ble_eq_true rfl) ?_
        rintro _ σz ⟨rfl, hz⟩
        subst σz
        refine zWp.use (ih v2 v3 v4 (v5 + (-1)) (u_X0_enter_h0_5 o q1 N v2 v3 v4 v5 σ) ((hp.2 h1).2 h2).2.2) (And.intro rfl (And.intro rfl (And.intro rfl (And.intro rfl (And.intro rfl (And.intro rfl trivial)))))) (fun vy σy hy => ?_)
        rw [l_X0_enter, if_neg h1, if_neg h2]; exact hy
def u_X0_enter_1 (o : Nat) (q1 : Nat) (N : Nat) (σ : zS) : zS := s_X8_put 60 (o + 2) (σ.1 o 0) ((σ.1 o 1) + 1) σ
def u_X0_enter_2 (o : Nat) (q1 : Nat) (N : Nat) (σ : zS) : zS := zuI σ o 0 ((σ.1 o 0) + 1)
def u_X0_enter_3 (o : Nat) (q1 : Nat) (N : Nat) (σ : zS) : zS := zuI (u_X0_enter_2 o q1 N σ) o 5 (((u_X0_enter_2 o q1 N σ).1 o 5) + 1)
def u_X0_enter_4 (o : Nat) (q1 : Nat) (N : Nat) (σ : zS) : zS := s_X8_put 60 (o + 2) (σ.1 o 0) ((σ.1 o 1) + 1) σ
def u_X0_enter_5 (o : Nat) (q1 : Nat) (N : Nat) (σ : zS) : zS := zuI σ o 0 ((σ.1 o 0) + 1)
def u_X0_enter_6 (o : Nat) (q1 : Nat) (N : Nat) (σ : zS) : zS := zuI (u_X0_enter_5 o q1 N σ) o 5 (((u_X0_enter_5 o q1 N σ).1 o 5) + 1)
def s_X0_enter (o : Nat) (q1 : Nat) (N : Nat) (σ : zS) : zS := if (zlay (σ.2 o 4 - 1)).1 = 20 then (if (Int32.ofNat ((zlay (σ.2 o 4 - 1)).2)) ≤ 0 then (l_X0_enter o q1 N N (f_X0_called o q1 σ) ((σ.1 o 0) * 4) (f_X8_at 6 (q1 + 2) (f_X0_called o q1 σ) σ) 3 (u_X0_enter_1 o q1 N σ)) else (u_X0_enter_3 o q1 N σ)) else (if (Int32.ofNat ((zlay (σ.2 o 4 - 1)).2)) ≤ 0 then (l_X0_enter o q1 N N (f_X0_called o q1 σ) ((σ.1 o 0) * 4) (f_X8_at 6 (q1 + 2) (f_X0_called o q1 σ) σ) 3 (u_X0_enter_4 o q1 N σ)) else (u_X0_enter_6 o q1 N σ))
def p_X0_enter (o : Nat) (q1 : Nat) (N : Nat) (σ : zS) : Prop := (σ.2 o 4 ≠ 0) ∧ (((zlay (σ.2 o 4 - 1)).1 = 20 → ((Int32.ofNat ((zlay (σ.2 o 4 - 1)).2)) ≤ 0 → (p_X0_called o q1 σ ∧ (p_X8_at 6 (q1 + 2) (f_X0_called o q1 σ) σ ∧ (p_X8_put 60 (o + 2) (σ.1 o 0) ((σ.1 o 1) + 1) σ ∧ q_X0_enter o q1 N N (f_X0_called o q1 σ) ((σ.1 o 0) * 4) (f_X8_at 6 (q1 + 2) (f_X0_called o q1 σ) σ) 3 (u_X0_enter_1 o q1 N σ)))))) ∧ (¬ (zlay (σ.2 o 4 - 1)).1 = 20 → ((zlay (σ.2 o 4 - 1)).1 = 26 ∧ ((Int32.ofNat ((zlay (σ.2 o 4 - 1)).2)) ≤ 0 → (p_X0_called o q1 σ ∧ (p_X8_at 6 (q1 + 2) (f_X0_called o q1 σ) σ ∧ (p_X8_put 60 (o + 2) (σ.1 o 0) ((σ.1 o 1) + 1) σ ∧ q_X0_enter o q1 N N (f_X0_called o q1 σ) ((σ.1 o 0) * 4) (f_X8_at 6 (q1 + 2) (f_X0_called o q1 σ) σ) 3 (u_X0_enter_4 o q1 N σ))))))))
set_option maxRecDepth 100000 in
set_option maxHeartbeats 1000000 in
theorem c_X0_enter {nx : Nat} (o : Nat) (q1 : Nat) (N : Nat) (σ : zS) (hp : p_X0_enter o q1 N σ) : zCl 3 zall nx zall nx 8 [.inr (0, 9, o), .inr (2, 16, q1)] σ (fun v σ1 => v = none ∧ σ1 = s_X0_enter o q1 N σ) := by
  refine zmeth (cd := kX0_enter) [72] 1000 (Nat.le_of_ble_eq_true rfl) rfl okX0_enter (Nat.le_refl _) (Nat.le_of_ble_eq_true rfl) ?_
  refine And.intro hp.1 (fun q901 (e1 : σ.2 o 4 = q901 + 1) => ?_)
  have g1 : q901 = (σ.2 o 4 - 1) := by omega
  subst g1
  by_cases h1 : (zlay (σ.2 o 4 - 1)).1 = 20
  · rw [h1]
    refine And.intro (fun (h2 : (Int32.ofNat ((zlay (σ.2 o 4 - 1)).2)) ≤ 0) => ?_) (fun (h2 : ¬ (Int32.ofNat ((zlay (σ.2 o 4 - 1)).2)) ≤ 0) => ?_)
    · refine zCl.use (c_X0_called o q1 σ ((hp.2.1 h1) h2).1) (Nat.le_of_ble_eq_true rfl) ?_
      rintro _ σz ⟨rfl, hz⟩
      subst σz
      refine zCl.use (c_X8_at 6 (q1 + 2) (f_X0_called o q1 σ) σ ((hp.2.1 h1) h2).2.1) (Nat.le_of_ble_eq_true rfl) ?_
      rintro _ σz ⟨rfl, hz⟩
      subst σz
      refine zCl.use (c_X8_put 60 (o + 2) (σ.1 o 0) ((σ.1 o 1) + 1) σ ((hp.2.1 h1) h2).2.2.1) (Nat.le_of_ble_eq_true rfl) ?_
      rintro _ σz ⟨rfl, hz⟩
      subst σz
      refine zWp.use ((w_X0_enter o q1 N N) (f_X0_called o q1 σ) ((σ.1 o 0) * 4) (f_X8_at 6 (q1 + 2) (f_X0_called o q1 σ) σ) 3 (u_X0_enter_1 o q1 N σ) ((hp.2.1 h1) h2).2.2.2) (And.intro rfl (And.intro rfl (And.intro rfl (And.intro rfl (And.intro rfl (And.intro rfl trivial)))))) (fun vy σy hy => ?_)
      rw [s_X0_enter, if_pos h1, if_pos h2]; exact hy
    · exact And.intro rfl (And.intro rfl ⟨rfl, by rw [s_X0_enter, if_pos h1, if_neg h2] <;> rfl⟩)
  · rw [(hp.2.2 h1).1]
    refine And.intro (fun (h3 : (Int32.ofNat ((zlay (σ.2 o 4 - 1)).2)) ≤ 0) => ?_) (fun (h3 : ¬ (Int32.ofNat ((zlay (σ.2 o 4 - 1)).2)) ≤ 0) => ?_)
    · refine zCl.use (c_X0_called o q1 σ ((hp.2.2 h1).2 h3).1) (Nat.le_of_ble_eq_true rfl) ?_
      rintro _ σz ⟨rfl, hz⟩
      subst σz
      refine zCl.use (c_X8_at 6 (q1 + 2) (f_X0_called o q1 σ) σ ((hp.2.2 h1).2 h3).2.1) (Nat.le_of_ble_eq_true rfl) ?_
      rintro _ σz ⟨rfl, hz⟩
      subst σz
      refine zCl.use (c_X8_put 60 (o + 2) (σ.1 o 0) ((σ.1 o 1) + 1) σ ((hp.2.2 h1).2 h3).2.2.1) (Nat.le_of_ble_eq_true rfl) ?_
      rintro _ σz ⟨rfl, hz⟩
      subst σz
      refine zWp.use ((w_X0_enter o q1 N N) (f_X0_called o q1 σ) ((σ.1 o 0) * 4) (f_X8_at 6 (q1 + 2) (f_X0_called o q1 σ) σ) 3 (u_X0_enter_4 o q1 N σ) ((hp.2.2 h1).2 h3).2.2.2) (And.intro rfl (And.intro rfl (And.intro rfl (And.intro rfl (And.intro rfl (And.intro rfl trivial)))))) (fun vy σy hy => ?_)
      rw [s_X0_enter, if_neg h1, if_pos h3]; exact hy
    · exact And.intro rfl (And.intro rfl ⟨rfl, by rw [s_X0_enter, if_neg h1, if_neg h3] <;> rfl⟩)
def u_X0_leave_1 (o : Nat) (σ : zS) : zS := zuI σ o 0 ((σ.1 o 0) - 1)
def u_X0_leave_2 (o : Nat) (σ : zS) : zS := zuI (u_X0_leave_1 o σ) o 1 (f_X8_at 60 (o + 2) ((u_X0_leave_1 o σ).1 o 0) (u_X0_leave_1 o σ))
def u_X0_leave_3 (o : Nat) (σ : zS) : zS := (r_X0_pop o (u_X0_leave_1 o σ)).2
def u_X0_leave_4 (o : Nat) (σ : zS) : zS := zuI (u_X0_leave_3 o σ) o 3 ((r_X0_pop o (u_X0_leave_1 o σ)).1)
def u_X0_leave_5 (o : Nat) (σ : zS) : zS := zuI (u_X0_leave_1 o σ) o 5 (((u_X0_leave_1 o σ).1 o 5) + 1)
def u_X0_leave_6 (o : Nat) (σ : zS) : zS := zuI (u_X0_leave_1 o σ) o 1 (f_X8_at 60 (o + 2) ((u_X0_leave_1 o σ).1 o 0) (u_X0_leave_1 o σ))
def u_X0_leave_7 (o : Nat) (σ : zS) : zS := (r_X0_pop o (u_X0_leave_1 o σ)).2
def u_X0_leave_8 (o : Nat) (σ : zS) : zS := zuI (u_X0_leave_7 o σ) o 3 ((r_X0_pop o (u_X0_leave_1 o σ)).1)
def u_X0_leave_9 (o : Nat) (σ : zS) : zS := zuI (u_X0_leave_1 o σ) o 5 (((u_X0_leave_1 o σ).1 o 5) + 1)
def s_X0_leave (o : Nat) (σ : zS) : zS := if (zlay ((u_X0_leave_1 o σ).2 o 4 - 1)).1 = 20 then (if (Int32.ofNat ((zlay ((u_X0_leave_1 o σ).2 o 4 - 1)).2)) ≤ 0 then (if ((u_X0_leave_1 o σ).1 o 0) = 0 then (u_X0_leave_4 o σ) else (u_X0_leave_2 o σ)) else (u_X0_leave_5 o σ)) else (if (Int32.ofNat ((zlay ((u_X0_leave_1 o σ).2 o 4 - 1)).2)) ≤ 0 then (if ((u_X0_leave_1 o σ).1 o 0) = 0 then (u_X0_leave_8 o σ) else (u_X0_leave_6 o σ)) else (u_X0_leave_9 o σ))
def p_X0_leave (o : Nat) (σ : zS) : Prop := ((u_X0_leave_1 o σ).2 o 4 ≠ 0) ∧ (((zlay ((u_X0_leave_1 o σ).2 o 4 - 1)).1 = 20 → ((Int32.ofNat ((zlay ((u_X0_leave_1 o σ).2 o 4 - 1)).2)) ≤ 0 → ((¬ ((u_X0_leave_1 o σ).1 o 0) = 0 → p_X8_at 60 (o + 2) ((u_X0_leave_1 o σ).1 o 0) (u_X0_leave_1 o σ)) ∧ (((u_X0_leave_1 o σ).1 o 0) = 0 → p_X0_pop o (u_X0_leave_1 o σ))))) ∧ (¬ (zlay ((u_X0_leave_1 o σ).2 o 4 - 1)).1 = 20 → ((zlay ((u_X0_leave_1 o σ).2 o 4 - 1)).1 = 26 ∧ ((Int32.ofNat ((zlay ((u_X0_leave_1 o σ).2 o 4 - 1)).2)) ≤ 0 → ((¬ ((u_X0_leave_1 o σ).1 o 0) = 0 → p_X8_at 60 (o + 2) ((u_X0_leave_1 o σ).1 o 0) (u_X0_leave_1 o σ)) ∧ (((u_X0_leave_1 o σ).1 o 0) = 0 → p_X0_pop o (u_X0_leave_1 o σ)))))))
set_option maxRecDepth 100000 in
set_option maxHeartbeats 1000000 in
theorem c_X0_leave {nx : Nat} (o : Nat) (σ : zS) (hp : p_X0_leave o σ) : zCl 2 zall nx zall nx 9 [.inr (0, 9, o)] σ (fun v σ1 => v = none ∧ σ1 = s_X0_leave o σ) := by
  refine zmeth (cd := kX0_leave) [] 1000 (Nat.le_of_ble_eq_true rfl) rfl okX0_leave (Nat.le_refl _) (Nat.le_of_ble_eq_true rfl) ?_
  refine And.intro hp.1 (fun q901 (e1 : (u_X0_leave_1 o σ).2 o 4 = q901 + 1) => ?_)
  have g1 : q901 = ((u_X0_leave_1 o σ).2 o 4 - 1) := by omega
  subst g1
  by_cases h1 : (zlay ((u_X0_leave_1 o σ).2 o 4 - 1)).1 = 20
  · rw [h1]
    refine And.intro (fun (h2 : (Int32.ofNat ((zlay ((u_X0_leave_1 o σ).2 o 4 - 1)).2)) ≤ 0) => ?_) (fun (h2 : ¬ (Int32.ofNat ((zlay ((u_X0_leave_1 o σ).2 o 4 - 1)).2)) ≤ 0) => ?_)
    · refine And.intro (fun (h3 : ¬ ((u_X0_leave_1 o σ).1 o 0) = 0) => ?_) (fun (h3 : ((u_X0_leave_1 o σ).1 o 0) = 0) => ?_)
      · refine zCl.use (c_X8_at 60 (o + 2) ((u_X0_leave_1 o σ).1 o 0) (u_X0_leave_1 o σ) (((hp.2.1 h1) h2).1 h3)) (Nat.le_of_ble_eq_true rfl) ?_
        rintro _ σz ⟨rfl, hz⟩
        subst σz
        exact And.intro rfl (And.intro rfl ⟨rfl, by rw [s_X0_leave, if_pos h1, if_pos h2, if_neg h3] <;> rfl⟩)
      · refine zCl.use (c_X0_pop o (u_X0_leave_1 o σ) (((hp.2.1 h1) h2).2 h3)) (Nat.le_of_ble_eq_true rfl) ?_
        rintro _ σz ⟨rfl, hz⟩
        subst σz
        exact And.intro rfl (And.intro rfl ⟨rfl, by rw [s_X0_leave, if_pos h1, if_pos h2, if_pos h3] <;> rfl⟩)
    · exact And.intro rfl (And.intro rfl ⟨rfl, by rw [s_X0_leave, if_pos h1, if_neg h2] <;> rfl⟩)
  · rw [(hp.2.2 h1).1]
    refine And.intro (fun (h4 : (Int32.ofNat ((zlay ((u_X0_leave_1 o σ).2 o 4 - 1)).2)) ≤ 0) => ?_) (fun (h4 : ¬ (Int32.ofNat ((zlay ((u_X0_leave_1 o σ).2 o 4 - 1)).2)) ≤ 0) => ?_)
    · refine And.intro (fun (h5 : ¬ ((u_X0_leave_1 o σ).1 o 0) = 0) => ?_) (fun (h5 : ((u_X0_leave_1 o σ).1 o 0) = 0) => ?_)
      · refine zCl.use (c_X8_at 60 (o + 2) ((u_X0_leave_1 o σ).1 o 0) (u_X0_leave_1 o σ) (((hp.2.2 h1).2 h4).1 h5)) (Nat.le_of_ble_eq_true rfl) ?_
        rintro _ σz ⟨rfl, hz⟩
        subst σz
        exact And.intro rfl (And.intro rfl ⟨rfl, by rw [s_X0_leave, if_neg h1, if_pos h4, if_neg h5] <;> rfl⟩)
      · refine zCl.use (c_X0_pop o (u_X0_leave_1 o σ) (((hp.2.2 h1).2 h4).2 h5)) (Nat.le_of_ble_eq_true rfl) ?_
        rintro _ σz ⟨rfl, hz⟩
        subst σz
        exact And.intro rfl (And.intro rfl ⟨rfl, by rw [s_X0_leave, if_neg h1, if_pos h4, if_pos h5] <;> rfl⟩)
    · exact And.intro rfl (And.intro rfl ⟨rfl, by rw [s_X0_leave, if_neg h1, if_neg h4] <;> rfl⟩)
def u_X0_computeOfTwo_1 (o : Nat) (x1 : Int32) (x2 : Int32) (σ : zS) : zS := (r_X0_pop o σ).2
def u_X0_computeOfTwo_2 (o : Nat) (x1 : Int32) (x2 : Int32) (σ : zS) : zS := (r_X0_pop o (u_X0_computeOfTwo_1 o x1 x2 σ)).2
def u_X0_computeOfTwo_3 (o : Nat) (x1 : Int32) (x2 : Int32) (σ : zS) : zS := s_X0_push o (((r_X0_pop o (u_X0_computeOfTwo_1 o x1 x2 σ)).1) + ((r_X0_pop o σ).1)) (u_X0_computeOfTwo_2 o x1 x2 σ)
def u_X0_computeOfTwo_4 (o : Nat) (x1 : Int32) (x2 : Int32) (σ : zS) : zS := s_X0_push o (((r_X0_pop o (u_X0_computeOfTwo_1 o x1 x2 σ)).1) - ((r_X0_pop o σ).1)) (u_X0_computeOfTwo_2 o x1 x2 σ)
def u_X0_computeOfTwo_5 (o : Nat) (x1 : Int32) (x2 : Int32) (σ : zS) : zS := s_X0_push o (((r_X0_pop o (u_X0_computeOfTwo_1 o x1 x2 σ)).1) * ((r_X0_pop o σ).1)) (u_X0_computeOfTwo_2 o x1 x2 σ)
def u_X0_computeOfTwo_6 (o : Nat) (x1 : Int32) (x2 : Int32) (σ : zS) : zS := s_X0_push o (((r_X0_pop o (u_X0_computeOfTwo_1 o x1 x2 σ)).1) / ((r_X0_pop o σ).1)) (u_X0_computeOfTwo_2 o x1 x2 σ)
def u_X0_computeOfTwo_7 (o : Nat) (x1 : Int32) (x2 : Int32) (σ : zS) : zS := s_X0_push o 0 (u_X0_computeOfTwo_2 o x1 x2 σ)
def u_X0_computeOfTwo_8 (o : Nat) (x1 : Int32) (x2 : Int32) (σ : zS) : zS := s_X0_push o (((r_X0_pop o (u_X0_computeOfTwo_1 o x1 x2 σ)).1) - ((r_X0_pop o (u_X0_computeOfTwo_1 o x1 x2 σ)).1) / ((r_X0_pop o σ).1) * ((r_X0_pop o σ).1)) (u_X0_computeOfTwo_2 o x1 x2 σ)
def u_X0_computeOfTwo_9 (o : Nat) (x1 : Int32) (x2 : Int32) (σ : zS) : zS := s_X0_push o 0 (u_X0_computeOfTwo_2 o x1 x2 σ)
def u_X0_computeOfTwo_10 (o : Nat) (x1 : Int32) (x2 : Int32) (σ : zS) : zS := zuI (u_X0_computeOfTwo_2 o x1 x2 σ) o 1 x2
def u_X0_computeOfTwo_11 (o : Nat) (x1 : Int32) (x2 : Int32) (σ : zS) : zS := zuI (u_X0_computeOfTwo_2 o x1 x2 σ) o 1 ((u_X0_computeOfTwo_2 o x1 x2 σ).1 o 1)
def u_X0_computeOfTwo_12 (o : Nat) (x1 : Int32) (x2 : Int32) (σ : zS) : zS := zuI (u_X0_computeOfTwo_2 o x1 x2 σ) o 1 x2
def u_X0_computeOfTwo_13 (o : Nat) (x1 : Int32) (x2 : Int32) (σ : zS) : zS := zuI (u_X0_computeOfTwo_2 o x1 x2 σ) o 1 ((u_X0_computeOfTwo_2 o x1 x2 σ).1 o 1)
def u_X0_computeOfTwo_14 (o : Nat) (x1 : Int32) (x2 : Int32) (σ : zS) : zS := zuI (u_X0_computeOfTwo_2 o x1 x2 σ) o 1 x2
def u_X0_computeOfTwo_15 (o : Nat) (x1 : Int32) (x2 : Int32) (σ : zS) : zS := zuI (u_X0_computeOfTwo_2 o x1 x2 σ) o 1 ((u_X0_computeOfTwo_2 o x1 x2 σ).1 o 1)
def s_X0_computeOfTwo (o : Nat) (x1 : Int32) (x2 : Int32) (σ : zS) : zS := if x1 = 3 then (u_X0_computeOfTwo_3 o x1 x2 σ) else (if x1 = 4 then (u_X0_computeOfTwo_4 o x1 x2 σ) else (if x1 = 5 then (u_X0_computeOfTwo_5 o x1 x2 σ) else (if x1 = 6 then (if ((r_X0_pop o σ).1) = 0 then (u_X0_computeOfTwo_7 o x1 x2 σ) else (u_X0_computeOfTwo_6 o x1 x2 σ)) else (if x1 = 7 then (if ((r_X0_pop o σ).1) = 0 then (u_X0_computeOfTwo_9 o x1 x2 σ) else (u_X0_computeOfTwo_8 o x1 x2 σ)) else (if x1 = 8 then (if ((r_X0_pop o σ).1) ≤ ((r_X0_pop o (u_X0_computeOfTwo_1 o x1 x2 σ)).1) then (u_X0_computeOfTwo_10 o x1 x2 σ) else (u_X0_computeOfTwo_11 o x1 x2 σ)) else (if x1 = 9 then (if ((r_X0_pop o (u_X0_computeOfTwo_1 o x1 x2 σ)).1) ≤ ((r_X0_pop o σ).1) then (u_X0_computeOfTwo_12 o x1 x2 σ) else (u_X0_computeOfTwo_13 o x1 x2 σ)) else (if ((r_X0_pop o (u_X0_computeOfTwo_1 o x1 x2 σ)).1) = ((r_X0_pop o σ).1) then (u_X0_computeOfTwo_15 o x1 x2 σ) else (u_X0_computeOfTwo_14 o x1 x2 σ))))))))
def p_X0_computeOfTwo (o : Nat) (x1 : Int32) (x2 : Int32) (σ : zS) : Prop := p_X0_pop o σ ∧ (p_X0_pop o (u_X0_computeOfTwo_1 o x1 x2 σ) ∧ ((x1 = 3 → p_X0_push o (((r_X0_pop o (u_X0_computeOfTwo_1 o x1 x2 σ)).1) + ((r_X0_pop o σ).1)) (u_X0_computeOfTwo_2 o x1 x2 σ)) ∧ (¬ x1 = 3 → ((x1 = 4 → p_X0_push o (((r_X0_pop o (u_X0_computeOfTwo_1 o x1 x2 σ)).1) - ((r_X0_pop o σ).1)) (u_X0_computeOfTwo_2 o x1 x2 σ)) ∧ (¬ x1 = 4 → ((x1 = 5 → p_X0_push o (((r_X0_pop o (u_X0_computeOfTwo_1 o x1 x2 σ)).1) * ((r_X0_pop o σ).1)) (u_X0_computeOfTwo_2 o x1 x2 σ)) ∧ (¬ x1 = 5 → ((x1 = 6 → ((¬ ((r_X0_pop o σ).1) = 0 → (¬ ((r_X0_pop o σ).1) = 0 ∧ p_X0_push o (((r_X0_pop o (u_X0_computeOfTwo_1 o x1 x2 σ)).1) / ((r_X0_pop o σ).1)) (u_X0_computeOfTwo_2 o x1 x2 σ))) ∧ (((r_X0_pop o σ).1) = 0 → p_X0_push o 0 (u_X0_computeOfTwo_2 o x1 x2 σ)))) ∧ (¬ x1 = 6 → (x1 = 7 → ((¬ ((r_X0_pop o σ).1) = 0 → (¬ ((r_X0_pop o σ).1) = 0 ∧ p_X0_push o (((r_X0_pop o (u_X0_computeOfTwo_1 o x1 x2 σ)).1) - ((r_X0_pop o (u_X0_computeOfTwo_1 o x1 x2 σ)).1) / ((r_X0_pop o σ).1) * ((r_X0_pop o σ).1)) (u_X0_computeOfTwo_2 o x1 x2 σ))) ∧ (((r_X0_pop o σ).1) = 0 → p_X0_push o 0 (u_X0_computeOfTwo_2 o x1 x2 σ)))))))))))))
set_option maxRecDepth 100000 in
set_option maxHeartbeats 1000000 in
theorem c_X0_computeOfTwo {nx : Nat} (o : Nat) (x1 : Int32) (x2 : Int32) (σ : zS) (hp : p_X0_computeOfTwo o x1 x2 σ) : zCl 2 zall nx zall nx 11 [.inr (0, 9, o), .inl x1, .inl x2] σ (fun v σ1 => v = none ∧ σ1 = s_X0_computeOfTwo o x1 x2 σ) := by
  refine zmeth (cd := kX0_computeOfTwo) [] 1000 (Nat.le_of_ble_eq_true rfl) rfl okX0_computeOfTwo (Nat.le_refl _) (Nat.le_of_ble_eq_true rfl) ?_
  refine zCl.use (c_X0_pop o σ hp.1) (Nat.le_of_ble_eq_true rfl) ?_
  rintro _ σz ⟨rfl, hz⟩
  subst σz
  refine zCl.use (c_X0_pop o (u_X0_computeOfTwo_1 o x1 x2 σ) hp.2.1) (Nat.le_of_ble_eq_true rfl) ?_
  rintro _ σz ⟨rfl, hz⟩
  subst σz
  refine And.intro (fun (h1 : x1 = 3) => ?_) (fun (h1 : ¬ x1 = 3) => ?_)
  · refine zCl.use (c_X0_push o (((r_X0_pop o (u_X0_computeOfTwo_1 o x1 x2 σ)).1) + ((r_X0_pop o σ).1)) (u_X0_computeOfTwo_2 o x1 x2 σ) (hp.2.2.1 h1)) (Nat.le_of_ble_eq_true rfl) ?_
    rintro _ σz ⟨rfl, hz⟩
    subst σz
    exact And.intro rfl (And.intro rfl ⟨rfl, by rw [s_X0_computeOfTwo, if_pos h1] <;> rfl⟩)
  · refine And.intro (fun (h2 : x1 = 4) => ?_) (fun (h2 : ¬ x1 = 4) => ?_)
    · refine zCl.use (c_X0_push o (((r_X0_pop o (u_X0_computeOfTwo_1 o x1 x2 σ)).1) - ((r_X0_pop o σ).1)) (u_X0_computeOfTwo_2 o x1 x2 σ) ((hp.2.2.2 h1).1 h2)) (Nat.le_of_ble_eq_true rfl) ?_
      rintro _ σz ⟨rfl, hz⟩
      subst σz
      exact And.intro rfl (And.intro rfl ⟨rfl, by rw [s_X0_computeOfTwo, if_neg h1, if_pos h2] <;> rfl⟩)
    · refine And.intro (fun (h3 : x1 = 5) => ?_) (fun (h3 : ¬ x1 = 5) => ?_)
      · refine zCl.use (c_X0_push o (((r_X0_pop o (u_X0_computeOfTwo_1 o x1 x2 σ)).1) * ((r_X0_pop o σ).1)) (u_X0_computeOfTwo_2 o x1 x2 σ) (((hp.2.2.2 h1).2 h2).1 h3)) (Nat.le_of_ble_eq_true rfl) ?_
        rintro _ σz ⟨rfl, hz⟩
        subst σz
        exact And.intro rfl (And.intro rfl ⟨rfl, by rw [s_X0_computeOfTwo, if_neg h1, if_neg h2, if_pos h3] <;> rfl⟩)
      · refine And.intro (fun (h4 : x1 = 6) => ?_) (fun (h4 : ¬ x1 = 6) => ?_)
        · refine And.intro (fun (h5 : ¬ ((r_X0_pop o σ).1) = 0) => ?_) (fun (h5 : ((r_X0_pop o σ).1) = 0) => ?_)
          · refine And.intro (((((hp.2.2.2 h1).2 h2).2 h3).1 h4).1 h5).1 ?_
            refine zCl.use (c_X0_push o (((r_X0_pop o (u_X0_computeOfTwo_1 o x1 x2 σ)).1) / ((r_X0_pop o σ).1)) (u_X0_computeOfTwo_2 o x1 x2 σ) (((((hp.2.2.2 h1).2 h2).2 h3).1 h4).1 h5).2) (Nat.le_of_ble_eq_true rfl) ?_
            rintro _ σz ⟨rfl, hz⟩
            subst σz
            exact And.intro rfl (And.intro rfl ⟨rfl, by rw [s_X0_computeOfTwo, if_neg h1, if_neg h2, if_neg h3, if_pos h4, if_neg h5] <;> rfl⟩)
          · refine zCl.use (c_X0_push o 0 (u_X0_computeOfTwo_2 o x1 x2 σ) (((((hp.2.2.2 h1).2 h2).2 h3).1 h4).2 h5)) (Nat.le_of_ble_eq_true rfl) ?_
            rintro _ σz ⟨rfl, hz⟩
            subst σz
            exact And.intro rfl (And.intro rfl ⟨rfl, by rw [s_X0_computeOfTwo, if_neg h1, if_neg h2, if_neg h3, if_pos h4, if_pos h5] <;> rfl⟩)
        · refine And.intro (fun (h6 : x1 = 7) => ?_) (fun (h6 : ¬ x1 = 7) => ?_)
          · refine And.intro (fun (h7 : ¬ ((r_X0_pop o σ).1) = 0) => ?_) (fun (h7 : ((r_X0_pop o σ).1) = 0) => ?_)
            · refine And.intro ((((((hp.2.2.2 h1).2 h2).2 h3).2 h4) h6).1 h7).1 ?_
              refine zCl.use (c_X0_push o (((r_X0_pop o (u_X0_computeOfTwo_1 o x1 x2 σ)).1) - ((r_X0_pop o (u_X0_computeOfTwo_1 o x1 x2 σ)).1) / ((r_X0_pop o σ).1) * ((r_X0_pop o σ).1)) (u_X0_computeOfTwo_2 o x1 x2 σ) ((((((hp.2.2.2 h1).2 h2).2 h3).2 h4) h6).1 h7).2) (Nat.le_of_ble_eq_true rfl) ?_
              rintro _ σz ⟨rfl, hz⟩
              subst σz
              exact And.intro rfl (And.intro rfl ⟨rfl, by rw [s_X0_computeOfTwo, if_neg h1, if_neg h2, if_neg h3, if_neg h4, if_pos h6, if_neg h7] <;> rfl⟩)
            · refine zCl.use (c_X0_push o 0 (u_X0_computeOfTwo_2 o x1 x2 σ) ((((((hp.2.2.2 h1).2 h2).2 h3).2 h4) h6).2 h7)) (Nat.le_of_ble_eq_true rfl) ?_
              rintro _ σz ⟨rfl, hz⟩
              subst σz
              exact And.intro rfl (And.intro rfl ⟨rfl, by rw [s_X0_computeOfTwo, if_neg h1, if_neg h2, if_neg h3, if_neg h4, if_pos h6, if_pos h7] <;> rfl⟩)
          · refine And.intro (fun (h8 : x1 = 8) => ?_) (fun (h8 : ¬ x1 = 8) => ?_)
            · refine And.intro (fun (h9 : ((r_X0_pop o σ).1) ≤ ((r_X0_pop o (u_X0_computeOfTwo_1 o x1 x2 σ)).1)) => ?_) (fun (h9 : ¬ ((r_X0_pop o σ).1) ≤ ((r_X0_pop o (u_X0_computeOfTwo_1 o x1 x2 σ)).1)) => ?_)
              · exact And.intro rfl (And.intro rfl ⟨rfl, by rw [s_X0_computeOfTwo, if_neg h1, if_neg h2, if_neg h3, if_neg h4, if_neg h6, if_pos h8, if_pos h9] <;> rfl⟩)
              · exact And.intro rfl (And.intro rfl ⟨rfl, by rw [s_X0_computeOfTwo, if_neg h1, if_neg h2, if_neg h3, if_neg h4, if_neg h6, if_pos h8, if_neg h9] <;> rfl⟩)
            · refine And.intro (fun (h10 : x1 = 9) => ?_) (fun (h10 : ¬ x1 = 9) => ?_)
              · refine And.intro (fun (h11 : ((r_X0_pop o (u_X0_computeOfTwo_1 o x1 x2 σ)).1) ≤ ((r_X0_pop o σ).1)) => ?_) (fun (h11 : ¬ ((r_X0_pop o (u_X0_computeOfTwo_1 o x1 x2 σ)).1) ≤ ((r_X0_pop o σ).1)) => ?_)
                · exact And.intro rfl (And.intro rfl ⟨rfl, by rw [s_X0_computeOfTwo, if_neg h1, if_neg h2, if_neg h3, if_neg h4, if_neg h6, if_neg h8, if_pos h10, if_pos h11] <;> rfl⟩)
                · exact And.intro rfl (And.intro rfl ⟨rfl, by rw [s_X0_computeOfTwo, if_neg h1, if_neg h2, if_neg h3, if_neg h4, if_neg h6, if_neg h8, if_pos h10, if_neg h11] <;> rfl⟩)
              · refine And.intro (fun (h12 : ¬ ((r_X0_pop o (u_X0_computeOfTwo_1 o x1 x2 σ)).1) = ((r_X0_pop o σ).1)) => ?_) (fun (h12 : ((r_X0_pop o (u_X0_computeOfTwo_1 o x1 x2 σ)).1) = ((r_X0_pop o σ).1)) => ?_)
                · exact And.intro rfl (And.intro rfl ⟨rfl, by rw [s_X0_computeOfTwo, if_neg h1, if_neg h2, if_neg h3, if_neg h4, if_neg h6, if_neg h8, if_neg h10, if_neg h12] <;> rfl⟩)
                · exact And.intro rfl (And.intro rfl ⟨rfl, by rw [s_X0_computeOfTwo, if_neg h1, if_neg h2, if_neg h3, if_neg h4, if_neg h6, if_neg h8, if_neg h10, if_pos h12] <;> rfl⟩)
def u_X2_clear_1 (o : Nat) (N : Nat) (σ : zS) : zS := zuI σ o 0 6
def u_X2_clear_2 (o : Nat) (N : Nat) (σ : zS) : zS := zuI (u_X2_clear_1 o N σ) o 1 0
def u_X2_clear_3 (o : Nat) (N : Nat) (σ : zS) : zS := zuI (u_X2_clear_2 o N σ) o 2 0
def u_X2_clear_4 (o : Nat) (N : Nat) (σ : zS) : zS := zuI (u_X2_clear_3 o N σ) o 3 8
def u_X2_clear_5 (o : Nat) (N : Nat) (σ : zS) : zS := zuI (u_X2_clear_4 o N σ) o 4 10
def u_X2_clear_6 (o : Nat) (N : Nat) (σ : zS) : zS := zuI (u_X2_clear_5 o N σ) o 5 1
def u_X2_clear_7 (o : Nat) (N : Nat) (σ : zS) : zS := zuI (u_X2_clear_6 o N σ) o 6 0
def u_X2_clear_8 (o : Nat) (N : Nat) (σ : zS) : zS := zuI (u_X2_clear_7 o N σ) o 7 0
def u_X2_clear_9 (o : Nat) (N : Nat) (σ : zS) : zS := zuI (u_X2_clear_8 o N σ) o 8 0
def u_X2_clear_10 (o : Nat) (N : Nat) (σ : zS) : zS := zuI (u_X2_clear_9 o N σ) o 9 0
def u_X2_clear_11 (o : Nat) (N : Nat) (σ : zS) : zS := s_J7_fill_53178 16 (o + 4) 0 N (u_X2_clear_10 o N σ)
def s_X2_clear (o : Nat) (N : Nat) (σ : zS) : zS := (u_X2_clear_11 o N σ)
def p_X2_clear (o : Nat) (N : Nat) (σ : zS) : Prop := p_J7_fill_53178 16 (o + 4) 0 N (u_X2_clear_10 o N σ)
set_option maxRecDepth 100000 in
set_option maxHeartbeats 1000000 in
theorem c_X2_clear {nx : Nat} (o : Nat) (N : Nat) (σ : zS) (hp : p_X2_clear o N σ) : zCl 2 zall nx zall nx 23 [.inr (2, 16, o)] σ (fun v σ1 => v = none ∧ σ1 = s_X2_clear o N σ) := by
  refine zmeth (cd := kX2_clear) [] 1000 (Nat.le_of_ble_eq_true rfl) rfl okX2_clear (Nat.le_refl _) (Nat.le_of_ble_eq_true rfl) ?_
  refine zCl.use (c_J7_fill_53178 16 (o + 4) 0 N (u_X2_clear_10 o N σ) hp) (Nat.le_of_ble_eq_true rfl) ?_
  rintro _ σz ⟨rfl, hz⟩
  subst σz
  exact And.intro rfl (And.intro rfl ⟨rfl, by rw [s_X2_clear] <;> rfl⟩)
def u_X2_emit_1 (o : Nat) (x1 : Int32) (x2 : Int32) (σ : zS) : zS := s_X8_put 400 (o + 5) (σ.1 o 9) x1 σ
def u_X2_emit_2 (o : Nat) (x1 : Int32) (x2 : Int32) (σ : zS) : zS := s_X8_put 400 (o + 6) (σ.1 o 9) x2 (u_X2_emit_1 o x1 x2 σ)
def u_X2_emit_3 (o : Nat) (x1 : Int32) (x2 : Int32) (σ : zS) : zS := zuI (u_X2_emit_2 o x1 x2 σ) o 9 (((u_X2_emit_2 o x1 x2 σ).1 o 9) + 1)
def r_X2_emit (o : Nat) (x1 : Int32) (x2 : Int32) (σ : zS) : Int32 × zS := if 400 ≤ (σ.1 o 9) then (σ.1 o 9, σ) else (σ.1 o 9, (u_X2_emit_3 o x1 x2 σ))
def p_X2_emit (o : Nat) (x1 : Int32) (x2 : Int32) (σ : zS) : Prop := ¬ 400 ≤ (σ.1 o 9) → (p_X8_put 400 (o + 5) (σ.1 o 9) x1 σ ∧ p_X8_put 400 (o + 6) (σ.1 o 9) x2 (u_X2_emit_1 o x1 x2 σ))
set_option maxRecDepth 100000 in
set_option maxHeartbeats 1000000 in
theorem c_X2_emit {nx : Nat} (o : Nat) (x1 : Int32) (x2 : Int32) (σ : zS) (hp : p_X2_emit o x1 x2 σ) : zCl 2 zall nx zall nx 24 [.inr (2, 16, o), .inl x1, .inl x2] σ (fun v σ1 => v = some (.inl ((r_X2_emit o x1 x2 σ).1)) ∧ σ1 = (r_X2_emit o x1 x2 σ).2) := by
  refine zmeth (cd := kX2_emit) [] 1000 (Nat.le_of_ble_eq_true rfl) rfl okX2_emit (Nat.le_refl _) (Nat.le_of_ble_eq_true rfl) ?_
  refine And.intro (fun (h1 : 400 ≤ (σ.1 o 9)) => ?_) (fun (h1 : ¬ 400 ≤ (σ.1 o 9)) => ?_)
  · exact And.intro rfl (And.intro rfl ⟨by rw [r_X2_emit, if_pos h1] <;> rfl, by rw [r_X2_emit, if_pos h1] <;> rfl⟩)
  · refine zCl.use (c_X8_put 400 (o + 5) (σ.1 o 9) x1 σ (hp h1).1) (Nat.le_of_ble_eq_true rfl) ?_
    rintro _ σz ⟨rfl, hz⟩
    subst σz
    refine zCl.use (c_X8_put 400 (o + 6) (σ.1 o 9) x2 (u_X2_emit_1 o x1 x2 σ) (hp h1).2) (Nat.le_of_ble_eq_true rfl) ?_
    rintro _ σz ⟨rfl, hz⟩
    subst σz
    exact And.intro rfl (And.intro rfl ⟨by rw [r_X2_emit, if_neg h1] <;> rfl, by rw [r_X2_emit, if_neg h1] <;> rfl⟩)
def u_X4_copyFrom_h0_1 (o : Nat) (q1 : Nat) (N : Nat) (v2 : Int32) (σ : zS) : zS := s_X5_copyFrom (σ.2 (o + 4) (v2).toNatClampNeg - 1) (f_X4_taskAt q1 v2 σ) σ
def l_X4_copyFrom (o : Nat) (q1 : Nat) (N : Nat) : Nat → Int32 → zS → zS
  | 0, _, σ => σ
  | n + 1, v2, σ => if 4 ≤ v2 then σ else (l_X4_copyFrom o q1 N n (v2 + 1) (u_X4_copyFrom_h0_1 o q1 N v2 σ))
def q_X4_copyFrom (o : Nat) (q1 : Nat) (N : Nat) : Nat → Int32 → zS → Prop
  | 0, _, _ => False
  | n + 1, v2, σ => ¬ 4 ≤ v2 → (vp_in v2 4 ∧ ((σ.2 (o + 4) (v2).toNatClampNeg ≠ 0 ∧ zlay (σ.2 (o + 4) (v2).toNatClampNeg - 1) = (5, 12)) ∧ (p_X4_taskAt q1 v2 σ ∧ (p_X5_copyFrom (σ.2 (o + 4) (v2).toNatClampNeg - 1) (f_X4_taskAt q1 v2 σ) σ ∧ q_X4_copyFrom o q1 N n (v2 + 1) (u_X4_copyFrom_h0_1 o q1 N v2 σ)))))
set_option maxRecDepth 100000 in
set_option maxHeartbeats 1000000 in
theorem w_X4_copyFrom {nx : Nat} (o : Nat) (q1 : Nat) (N : Nat) : ∀ n : Nat, (∀ (v2 : Int32) (σ : zS), q_X4_copyFrom o q1 N n v2 σ → zWp 3 zall nx 52 (fun v σ1 => v = none ∧ σ1 = l_X4_copyFrom o q1 N n v2 σ) zall nx 160 [some (.inr (4, 17, o)), some (.inr (4, 17, q1)), some (.inl v2)] [] σ) := by
  intro n
  induction n with
  | zero => exact fun _ _ h => h.elim
  | succ n ih =>
    intro v2 σ hp
    rw [q_X4_copyFrom] at hp
    refine zvc_sound (cd := kX4_copyFrom) (cs := [160]) rfl okX4_copyFrom 1000 _ _ 160 (zseek kX4_copyFrom 160) _ _ _ zseek_sub ?_
    refine And.intro (fun (h1 : 4 ≤ v2) => ?_) (fun (h1 : ¬ 4 ≤ v2) => ?_)
    · exact And.intro rfl (And.intro rfl ⟨rfl, by rw [l_X4_copyFrom, if_pos h1] <;> rfl⟩)
    · refine And.intro (hp h1).1 ?_
      refine And.intro (hp h1).2.1.1 (fun q902 (e2 : σ.2 (o + 4) (v2).toNatClampNeg = q902 + 1) => ?_)
      have g2 : q902 = (σ.2 (o + 4) (v2).toNatClampNeg - 1) := by omega
      subst g2
      rw [(hp h1).2.1.2]
      refine zCl.use (c_X4_taskAt q1 v2 σ (hp h1).2.2.1) (Nat.le_of_ble_eq_true rfl) ?_
      rintro _ σz ⟨rfl, hz⟩
      subst σz
      refine zCl.use (c_X5_copyFrom (σ.2 (o + 4) (v2).toNatClampNeg - 1) (f_X4_taskAt q1 v2 σ) σ (hp h1).2.2.2.1) (Nat.le_of_ble_eq_true rfl) ?_
      rintro _ σz ⟨rfl, hz⟩
      subst σz
      refine zWp.use (ih (v2 + 1) (u_X4_copyFrom_h0_1 o q1 N v2 σ) (hp h1).2.2.2.2) (And.intro rfl (And.intro rfl (And.intro rfl trivial))) (fun vy σy hy => ?_)
      rw [l_X4_copyFrom, if_neg h1]; exact hy
def u_X4_copyFrom_1 (o : Nat) (q1 : Nat) (N : Nat) (σ : zS) : zS := zuI σ o 0 (σ.1 q1 0)
def u_X4_copyFrom_2 (o : Nat) (q1 : Nat) (N : Nat) (σ : zS) : zS := zuI (u_X4_copyFrom_1 o q1 N σ) o 1 ((u_X4_copyFrom_1 o q1 N σ).1 q1 1)
def u_X4_copyFrom_3 (o : Nat) (q1 : Nat) (N : Nat) (σ : zS) : zS := zuI (u_X4_copyFrom_2 o q1 N σ) o 2 ((u_X4_copyFrom_2 o q1 N σ).1 q1 2)
def u_X4_copyFrom_4 (o : Nat) (q1 : Nat) (N : Nat) (σ : zS) : zS := zuI (u_X4_copyFrom_3 o q1 N σ) o 3 ((u_X4_copyFrom_3 o q1 N σ).1 q1 3)
def u_X4_copyFrom_5 (o : Nat) (q1 : Nat) (N : Nat) (σ : zS) : zS := zuI (u_X4_copyFrom_4 o q1 N σ) o 4 ((u_X4_copyFrom_4 o q1 N σ).1 q1 4)
def u_X4_copyFrom_6 (o : Nat) (q1 : Nat) (N : Nat) (σ : zS) : zS := zuI (u_X4_copyFrom_5 o q1 N σ) o 5 ((u_X4_copyFrom_5 o q1 N σ).1 q1 5)
def u_X4_copyFrom_7 (o : Nat) (q1 : Nat) (N : Nat) (σ : zS) : zS := zuI (u_X4_copyFrom_6 o q1 N σ) o 6 ((u_X4_copyFrom_6 o q1 N σ).1 q1 6)
def u_X4_copyFrom_8 (o : Nat) (q1 : Nat) (N : Nat) (σ : zS) : zS := zuI (u_X4_copyFrom_7 o q1 N σ) o 7 ((u_X4_copyFrom_7 o q1 N σ).1 q1 7)
def u_X4_copyFrom_9 (o : Nat) (q1 : Nat) (N : Nat) (σ : zS) : zS := zuI (u_X4_copyFrom_8 o q1 N σ) o 8 ((u_X4_copyFrom_8 o q1 N σ).1 q1 8)
def u_X4_copyFrom_10 (o : Nat) (q1 : Nat) (N : Nat) (σ : zS) : zS := zuI (u_X4_copyFrom_9 o q1 N σ) o 9 ((u_X4_copyFrom_9 o q1 N σ).1 q1 9)
def u_X4_copyFrom_11 (o : Nat) (q1 : Nat) (N : Nat) (σ : zS) : zS := zuI (u_X4_copyFrom_10 o q1 N σ) o 10 ((u_X4_copyFrom_10 o q1 N σ).1 q1 10)
def u_X4_copyFrom_12 (o : Nat) (q1 : Nat) (N : Nat) (σ : zS) : zS := zuI (u_X4_copyFrom_11 o q1 N σ) o 11 ((u_X4_copyFrom_11 o q1 N σ).1 q1 11)
def u_X4_copyFrom_13 (o : Nat) (q1 : Nat) (N : Nat) (σ : zS) : zS := zuI (u_X4_copyFrom_12 o q1 N σ) o 12 ((u_X4_copyFrom_12 o q1 N σ).1 q1 12)
def u_X4_copyFrom_14 (o : Nat) (q1 : Nat) (N : Nat) (σ : zS) : zS := zcpy (u_X4_copyFrom_13 o q1 N σ) (q1 + 1) (o + 1) 0 0 12
def u_X4_copyFrom_15 (o : Nat) (q1 : Nat) (N : Nat) (σ : zS) : zS := zcpy (u_X4_copyFrom_14 o q1 N σ) (q1 + 2) (o + 2) 0 0 12
def u_X4_copyFrom_16 (o : Nat) (q1 : Nat) (N : Nat) (σ : zS) : zS := zcpy (u_X4_copyFrom_15 o q1 N σ) (q1 + 3) (o + 3) 0 0 100
def s_X4_copyFrom (o : Nat) (q1 : Nat) (N : Nat) (σ : zS) : zS := l_X4_copyFrom o q1 N N 0 (u_X4_copyFrom_16 o q1 N σ)
def p_X4_copyFrom (o : Nat) (q1 : Nat) (N : Nat) (σ : zS) : Prop := q_X4_copyFrom o q1 N N 0 (u_X4_copyFrom_16 o q1 N σ)
set_option maxRecDepth 100000 in
set_option maxHeartbeats 1000000 in
theorem c_X4_copyFrom {nx : Nat} (o : Nat) (q1 : Nat) (N : Nat) (σ : zS) (hp : p_X4_copyFrom o q1 N σ) : zCl 3 zall nx zall nx 52 [.inr (4, 17, o), .inr (4, 17, q1)] σ (fun v σ1 => v = none ∧ σ1 = s_X4_copyFrom o q1 N σ) := by
  refine zmeth (cd := kX4_copyFrom) [160] 1000 (Nat.le_of_ble_eq_true rfl) rfl okX4_copyFrom (Nat.le_refl _) (Nat.le_of_ble_eq_true rfl) ?_
  refine And.intro (by decide) ?_
  refine And.intro (by decide) ?_
  refine And.intro (by decide) ?_
  refine And.intro (Nat.le_of_ble_eq_true rfl) ?_
  refine And.intro (Nat.le_of_ble_eq_true rfl) ?_
  refine And.intro (by decide) ?_
  refine And.intro (by decide) ?_
  refine And.intro (by decide) ?_
  refine And.intro (Nat.le_of_ble_eq_true rfl) ?_
  refine And.intro (Nat.le_of_ble_eq_true rfl) ?_
  refine And.intro (by decide) ?_
  refine And.intro (by decide) ?_
  refine And.intro (by decide) ?_
  refine And.intro (Nat.le_of_ble_eq_true rfl) ?_
  refine And.intro (Nat.le_of_ble_eq_true rfl) ?_
  refine zWp.use ((w_X4_copyFrom o q1 N N) 0 (u_X4_copyFrom_16 o q1 N σ) hp) (And.intro rfl (And.intro rfl (And.intro rfl trivial))) (fun vy σy hy => ?_)
  rw [s_X4_copyFrom]; exact hy
def u_X4_changeHandler_h0_1 (o : Nat) (N : Nat) (v1 : Int32) (v2 : Int32) (v3 : Int32) (σ : zS) : zS := s_X5_forgetGuesses (σ.2 (o + 4) (v3).toNatClampNeg - 1) σ
def l_X4_changeHandler (o : Nat) (N : Nat) : Nat → Int32 → Int32 → Int32 → zS → zS
  | 0, _, _, _, σ => σ
  | n + 1, v1, v2, v3, σ => if 4 ≤ v3 then σ else (l_X4_changeHandler o N n v1 v2 (v3 + 1) (u_X4_changeHandler_h0_1 o N v1 v2 v3 σ))
def q_X4_changeHandler (o : Nat) (N : Nat) : Nat → Int32 → Int32 → Int32 → zS → Prop
  | 0, _, _, _, _ => False
  | n + 1, v1, v2, v3, σ => ¬ 4 ≤ v3 → (vp_in v3 4 ∧ ((σ.2 (o + 4) (v3).toNatClampNeg ≠ 0 ∧ zlay (σ.2 (o + 4) (v3).toNatClampNeg - 1) = (5, 12)) ∧ q_X4_changeHandler o N n v1 v2 (v3 + 1) (u_X4_changeHandler_h0_1 o N v1 v2 v3 σ)))
set_option maxRecDepth 100000 in
set_option maxHeartbeats 1000000 in
theorem w_X4_changeHandler {nx : Nat} (o : Nat) (N : Nat) : ∀ n : Nat, (∀ (v1 : Int32) (v2 : Int32) (v3 : Int32) (σ : zS), q_X4_changeHandler o N n v1 v2 v3 σ → zWp 2 zall nx 57 (fun v σ1 => v = none ∧ σ1 = l_X4_changeHandler o N n v1 v2 v3 σ) zall nx 26 [some (.inr (4, 17, o)), some (.inl v1), some (.inl v2), some (.inl v3)] [] σ) := by
  intro n
  induction n with
  | zero => exact fun _ _ _ _ h => h.elim
  | succ n ih =>
    intro v1 v2 v3 σ hp
    rw [q_X4_changeHandler] at hp
    refine zvc_sound (cd := kX4_changeHandler) (cs := [26]) rfl okX4_changeHandler 1000 _ _ 26 (zseek kX4_changeHandler 26) _ _ _ zseek_sub ?_
    refine And.intro (fun (h1 : 4 ≤ v3) => ?_) (fun (h1 : ¬ 4 ≤ v3) => ?_)
    · exact And.intro rfl (And.intro rfl ⟨rfl, by rw [l_X4_changeHandler, if_pos h1] <;> rfl⟩)
    · refine And.intro (hp h1).1 ?_
      refine And.intro (hp h1).2.1.1 (fun q902 (e2 : σ.2 (o + 4) (v3).toNatClampNeg = q902 + 1) => ?_)
      have g2 : q902 = (σ.2 (o + 4) (v3).toNatClampNeg - 1) := by omega
      subst g2
      rw [(hp h1).2.1.2]
      refine zCl.use (c_X5_forgetGuesses (σ.2 (o + 4) (v3).toNatClampNeg - 1) σ) (Nat.le_of_ble_eq_true rfl) ?_
      rintro _ σz ⟨rfl, hz⟩
      subst σz
      refine zWp.use (ih v1 v2 (v3 + 1) (u_X4_changeHandler_h0_1 o N v1 v2 v3 σ) (hp h1).2.2) (And.intro rfl (And.intro rfl (And.intro rfl (And.intro rfl trivial)))) (fun vy σy hy => ?_)
      rw [l_X4_changeHandler, if_neg h1]; exact hy
def u_X4_changeHandler_1 (o : Nat) (x1 : Int32) (x2 : Int32) (N : Nat) (σ : zS) : zS := zuI σ o 2 x1
def u_X4_changeHandler_2 (o : Nat) (x1 : Int32) (x2 : Int32) (N : Nat) (σ : zS) : zS := zuI (u_X4_changeHandler_1 o x1 x2 N σ) o 3 x2
def u_X4_changeHandler_3 (o : Nat) (x1 : Int32) (x2 : Int32) (N : Nat) (σ : zS) : zS := zuI (u_X4_changeHandler_1 o x1 x2 N σ) o 3 0
def u_X4_changeHandler_4 (o : Nat) (x1 : Int32) (x2 : Int32) (N : Nat) (σ : zS) : zS := zuI (u_X4_changeHandler_1 o x1 x2 N σ) o 3 x2
def s_X4_changeHandler (o : Nat) (x1 : Int32) (x2 : Int32) (N : Nat) (σ : zS) : zS := if x1 = 1 then (l_X4_changeHandler o N N x1 x2 0 (u_X4_changeHandler_2 o x1 x2 N σ)) else (if x1 = 3 then (l_X4_changeHandler o N N x1 x2 0 (u_X4_changeHandler_4 o x1 x2 N σ)) else (l_X4_changeHandler o N N x1 x2 0 (u_X4_changeHandler_3 o x1 x2 N σ)))
def p_X4_changeHandler (o : Nat) (x1 : Int32) (x2 : Int32) (N : Nat) (σ : zS) : Prop := (x1 = 1 → q_X4_changeHandler o N N x1 x2 0 (u_X4_changeHandler_2 o x1 x2 N σ)) ∧ (¬ x1 = 1 → ((¬ x1 = 3 → q_X4_changeHandler o N N x1 x2 0 (u_X4_changeHandler_3 o x1 x2 N σ)) ∧ (x1 = 3 → q_X4_changeHandler o N N x1 x2 0 (u_X4_changeHandler_4 o x1 x2 N σ))))
set_option maxRecDepth 100000 in
set_option maxHeartbeats 1000000 in
theorem c_X4_changeHandler {nx : Nat} (o : Nat) (x1 : Int32) (x2 : Int32) (N : Nat) (σ : zS) (hp : p_X4_changeHandler o x1 x2 N σ) : zCl 2 zall nx zall nx 57 [.inr (4, 17, o), .inl x1, .inl x2] σ (fun v σ1 => v = none ∧ σ1 = s_X4_changeHandler o x1 x2 N σ) := by
  refine zmeth (cd := kX4_changeHandler) [26] 1000 (Nat.le_of_ble_eq_true rfl) rfl okX4_changeHandler (Nat.le_refl _) (Nat.le_of_ble_eq_true rfl) ?_
  refine And.intro (fun (h1 : x1 = 1) => ?_) (fun (h1 : ¬ x1 = 1) => ?_)
  · refine zWp.use ((w_X4_changeHandler o N N) x1 x2 0 (u_X4_changeHandler_2 o x1 x2 N σ) (hp.1 h1)) (And.intro rfl (And.intro rfl (And.intro rfl (And.intro rfl trivial)))) (fun vy σy hy => ?_)
    rw [s_X4_changeHandler, if_pos h1]; exact hy
  · refine And.intro (fun (h2 : ¬ x1 = 3) => ?_) (fun (h2 : x1 = 3) => ?_)
    · refine zWp.use ((w_X4_changeHandler o N N) x1 x2 0 (u_X4_changeHandler_3 o x1 x2 N σ) ((hp.2 h1).1 h2)) (And.intro rfl (And.intro rfl (And.intro rfl (And.intro rfl trivial)))) (fun vy σy hy => ?_)
      rw [s_X4_changeHandler, if_neg h1, if_neg h2]; exact hy
    · refine zWp.use ((w_X4_changeHandler o N N) x1 x2 0 (u_X4_changeHandler_4 o x1 x2 N σ) ((hp.2 h1).2 h2)) (And.intro rfl (And.intro rfl (And.intro rfl (And.intro rfl trivial)))) (fun vy σy hy => ?_)
      rw [s_X4_changeHandler, if_neg h1, if_pos h2]; exact hy
def l_X4_windowsAstray (o : Nat) (N : Nat) : Nat → Int32 → Int32 → zS → Int32
  | 0, _, _, σ => 0
  | n + 1, v1, v2, σ => if (σ.1 o 0) ≤ v2 then v1 else (if (f_X8_at 12 (o + 1) v2 σ) = (-1) then (l_X4_windowsAstray o N n v1 (v2 + 1) σ) else (if (f_X4_windowOf o (f_X8_at 12 (o + 1) v2 σ) (f_X8_at 12 (o + 2) v2 σ) σ) = v2 then (l_X4_windowsAstray o N n v1 (v2 + 1) σ) else (l_X4_windowsAstray o N n (v1 + 1) (v2 + 1) σ)))
def q_X4_windowsAstray (o : Nat) (N : Nat) : Nat → Int32 → Int32 → zS → Prop
  | 0, _, _, _ => False
  | n + 1, v1, v2, σ => ¬ (σ.1 o 0) ≤ v2 → (p_X8_at 12 (o + 1) v2 σ ∧ (((f_X8_at 12 (o + 1) v2 σ) = (-1) → q_X4_windowsAstray o N n v1 (v2 + 1) σ) ∧ (¬ (f_X8_at 12 (o + 1) v2 σ) = (-1) → (p_X8_at 12 (o + 1) v2 σ ∧ (p_X8_at 12 (o + 2) v2 σ ∧ (p_X4_windowOf o (f_X8_at 12 (o + 1) v2 σ) (f_X8_at 12 (o + 2) v2 σ) σ ∧ (((f_X4_windowOf o (f_X8_at 12 (o + 1) v2 σ) (f_X8_at 12 (o + 2) v2 σ) σ) = v2 → q_X4_windowsAstray o N n v1 (v2 + 1) σ) ∧ (¬ (f_X4_windowOf o (f_X8_at 12 (o + 1) v2 σ) (f_X8_at 12 (o + 2) v2 σ) σ) = v2 → q_X4_windowsAstray o N n (v1 + 1) (v2 + 1) σ))))))))
set_option maxRecDepth 100000 in
set_option maxHeartbeats 1000000 in
theorem w_X4_windowsAstray {nx : Nat} (o : Nat) (N : Nat) : ∀ n : Nat, (∀ (v1 : Int32) (v2 : Int32) (σ : zS), q_X4_windowsAstray o N n v1 v2 σ → zWp 3 zall nx 62 (fun v σ1 => v = some (.inl (l_X4_windowsAstray o N n v1 v2 σ)) ∧ σ1 = σ) zall nx 4 [some (.inr (4, 17, o)), some (.inl v1), some (.inl v2)] [] σ) := by
  intro n
  induction n with
  | zero => exact fun _ _ _ h => h.elim
  | succ n ih =>
    intro v1 v2 σ hp
    rw [q_X4_windowsAstray] at hp
    refine zvc_sound (cd := kX4_windowsAstray) (cs := [4]) rfl okX4_windowsAstray 1000 _ _ 4 (zseek kX4_windowsAstray 4) _ _ _ zseek_sub ?_
    refine And.intro (fun (h1 : (σ.1 o 0) ≤ v2) => ?_) (fun (h1 : ¬ (σ.1 o 0) ≤ v2) => ?_)
    · exact And.intro rfl (And.intro rfl ⟨by rw [l_X4_windowsAstray, if_pos h1] <;> rfl, rfl⟩)
    · refine zCl.use (c_X8_at 12 (o + 1) v2 σ (hp h1).1) (Nat.le_of_ble_eq_true rfl) ?_
      rintro _ σz ⟨rfl, hz⟩
      subst σz
      refine And.intro (fun (h2 : (f_X8_at 12 (o + 1) v2 σ) = (-1)) => ?_) (fun (h2 : ¬ (f_X8_at 12 (o + 1) v2 σ) = (-1)) => ?_)
      · refine zWp.use (ih v1 (v2 + 1) σ ((hp h1).2.1 h2)) (And.intro rfl (And.intro rfl (And.intro rfl trivial))) (fun vy σy hy => ?_)
        rw [l_X4_windowsAstray, if_neg h1, if_pos h2]; exact hy
      · refine zCl.use (c_X8_at 12 (o + 1) v2 σ ((hp h1).2.2 h2).1) (Nat.le_of_ble_eq_true rfl) ?_
        rintro _ σz ⟨rfl, hz⟩
        subst σz
        refine zCl.use (c_X8_at 12 (o + 2) v2 σ ((hp h1).2.2 h2).2.1) (Nat.le_of_ble_eq_true rfl) ?_
        rintro _ σz ⟨rfl, hz⟩
        subst σz
        refine zCl.use (c_X4_windowOf o (f_X8_at 12 (o + 1) v2 σ) (f_X8_at 12 (o + 2) v2 σ) σ ((hp h1).2.2 h2).2.2.1) (Nat.le_of_ble_eq_true rfl) ?_
        rintro _ σz ⟨rfl, hz⟩
        subst σz
        refine And.intro (fun (h3 : (f_X4_windowOf o (f_X8_at 12 (o + 1) v2 σ) (f_X8_at 12 (o + 2) v2 σ) σ) = v2) => ?_) (fun (h3 : ¬ (f_X4_windowOf o (f_X8_at 12 (o + 1) v2 σ) (f_X8_at 12 (o + 2) v2 σ) σ) = v2) => ?_)
        · refine zWp.use (ih v1 (v2 + 1) σ (((hp h1).2.2 h2).2.2.2.1 h3)) (And.intro rfl (And.intro rfl (And.intro rfl trivial))) (fun vy σy hy => ?_)
          rw [l_X4_windowsAstray, if_neg h1, if_neg h2, if_pos h3]; exact hy
        · refine zWp.use (ih (v1 + 1) (v2 + 1) σ (((hp h1).2.2 h2).2.2.2.2 h3)) (And.intro rfl (And.intro rfl (And.intro rfl trivial))) (fun vy σy hy => ?_)
          rw [l_X4_windowsAstray, if_neg h1, if_neg h2, if_neg h3]; exact hy
def f_X4_windowsAstray (o : Nat) (N : Nat) (σ : zS) : Int32 := l_X4_windowsAstray o N N 0 0 σ
def p_X4_windowsAstray (o : Nat) (N : Nat) (σ : zS) : Prop := q_X4_windowsAstray o N N 0 0 σ
set_option maxRecDepth 100000 in
set_option maxHeartbeats 1000000 in
theorem c_X4_windowsAstray {nx : Nat} (o : Nat) (N : Nat) (σ : zS) (hp : p_X4_windowsAstray o N σ) : zCl 3 zall nx zall nx 62 [.inr (4, 17, o)] σ (fun v σ1 => v = some (.inl (f_X4_windowsAstray o N σ)) ∧ σ1 = σ) := by
  refine zmeth (cd := kX4_windowsAstray) [4] 1000 (Nat.le_of_ble_eq_true rfl) rfl okX4_windowsAstray (Nat.le_refl _) (Nat.le_of_ble_eq_true rfl) ?_
  refine zWp.use ((w_X4_windowsAstray o N N) 0 0 σ hp) (And.intro rfl (And.intro rfl (And.intro rfl trivial))) (fun vy σy hy => ?_)
  rw [f_X4_windowsAstray]; exact hy
def l_X4_freeWindows (o : Nat) (N : Nat) : Nat → Int32 → Int32 → zS → Int32
  | 0, _, _, σ => 0
  | n + 1, v1, v2, σ => if (σ.1 o 0) ≤ v2 then v1 else (if (f_X8_at 12 (o + 1) v2 σ) = (-1) then (l_X4_freeWindows o N n (v1 + 1) (v2 + 1) σ) else (l_X4_freeWindows o N n (v1 + 0) (v2 + 1) σ))
def q_X4_freeWindows (o : Nat) (N : Nat) : Nat → Int32 → Int32 → zS → Prop
  | 0, _, _, _ => False
  | n + 1, v1, v2, σ => ¬ (σ.1 o 0) ≤ v2 → (p_X8_at 12 (o + 1) v2 σ ∧ ((¬ (f_X8_at 12 (o + 1) v2 σ) = (-1) → q_X4_freeWindows o N n (v1 + 0) (v2 + 1) σ) ∧ ((f_X8_at 12 (o + 1) v2 σ) = (-1) → q_X4_freeWindows o N n (v1 + 1) (v2 + 1) σ)))
set_option maxRecDepth 100000 in
set_option maxHeartbeats 1000000 in
theorem w_X4_freeWindows {nx : Nat} (o : Nat) (N : Nat) : ∀ n : Nat, (∀ (v1 : Int32) (v2 : Int32) (σ : zS), q_X4_freeWindows o N n v1 v2 σ → zWp 2 zall nx 66 (fun v σ1 => v = some (.inl (l_X4_freeWindows o N n v1 v2 σ)) ∧ σ1 = σ) zall nx 4 [some (.inr (4, 17, o)), some (.inl v1), some (.inl v2)] [] σ) := by
  intro n
  induction n with
  | zero => exact fun _ _ _ h => h.elim
  | succ n ih =>
    intro v1 v2 σ hp
    rw [q_X4_freeWindows] at hp
    refine zvc_sound (cd := kX4_freeWindows) (cs := [4]) rfl okX4_freeWindows 1000 _ _ 4 (zseek kX4_freeWindows 4) _ _ _ zseek_sub ?_
    refine And.intro (fun (h1 : (σ.1 o 0) ≤ v2) => ?_) (fun (h1 : ¬ (σ.1 o 0) ≤ v2) => ?_)
    · exact And.intro rfl (And.intro rfl ⟨by rw [l_X4_freeWindows, if_pos h1] <;> rfl, rfl⟩)
    · refine zCl.use (c_X8_at 12 (o + 1) v2 σ (hp h1).1) (Nat.le_of_ble_eq_true rfl) ?_
      rintro _ σz ⟨rfl, hz⟩
      subst σz
      refine And.intro (fun (h2 : ¬ (f_X8_at 12 (o + 1) v2 σ) = (-1)) => ?_) (fun (h2 : (f_X8_at 12 (o + 1) v2 σ) = (-1)) => ?_)
      · refine zWp.use (ih (v1 + 0) (v2 + 1) σ ((hp h1).2.1 h2)) (And.intro rfl (And.intro rfl (And.intro rfl trivial))) (fun vy σy hy => ?_)
        rw [l_X4_freeWindows, if_neg h1, if_neg h2]; exact hy
      · refine zWp.use (ih (v1 + 1) (v2 + 1) σ ((hp h1).2.2 h2)) (And.intro rfl (And.intro rfl (And.intro rfl trivial))) (fun vy σy hy => ?_)
        rw [l_X4_freeWindows, if_neg h1, if_pos h2]; exact hy
def f_X4_freeWindows (o : Nat) (N : Nat) (σ : zS) : Int32 := l_X4_freeWindows o N N 0 0 σ
def p_X4_freeWindows (o : Nat) (N : Nat) (σ : zS) : Prop := q_X4_freeWindows o N N 0 0 σ
set_option maxRecDepth 100000 in
set_option maxHeartbeats 1000000 in
theorem c_X4_freeWindows {nx : Nat} (o : Nat) (N : Nat) (σ : zS) (hp : p_X4_freeWindows o N σ) : zCl 2 zall nx zall nx 66 [.inr (4, 17, o)] σ (fun v σ1 => v = some (.inl (f_X4_freeWindows o N σ)) ∧ σ1 = σ) := by
  refine zmeth (cd := kX4_freeWindows) [4] 1000 (Nat.le_of_ble_eq_true rfl) rfl okX4_freeWindows (Nat.le_refl _) (Nat.le_of_ble_eq_true rfl) ?_
  refine zWp.use ((w_X4_freeWindows o N N) 0 0 σ hp) (And.intro rfl (And.intro rfl (And.intro rfl trivial))) (fun vy σy hy => ?_)
  rw [f_X4_freeWindows]; exact hy
