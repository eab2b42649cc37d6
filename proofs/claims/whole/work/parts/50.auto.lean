/-! printed by wip/whole/dec2.py -/
def f_X9_register (x1 : Int32) (x2 : Int32) (σ : zS) : Int32 := if (f_X9_isWindow x1 σ) = 0 then 0 else (if (f_X9_isFree x1 σ) = 0 then (if (f_X9_isIn x2 0 3) = 0 then 0 else (σ.1 469 (f_X9_atFrame (σ.1 469 (12 + x1).toNatClampNeg) (σ.1 469 (24 + x1).toNatClampNeg) (2 + x2)).toNatClampNeg)) else 0)
def p_X9_register (x1 : Int32) (x2 : Int32) (σ : zS) : Prop := p_X9_isWindow x1 σ ∧ (¬ (f_X9_isWindow x1 σ) = 0 → (p_X9_isFree x1 σ ∧ ((f_X9_isFree x1 σ) = 0 → (¬ (f_X9_isIn x2 0 3) = 0 → (vp_in (12 + x1) 14241 ∧ (vp_in (24 + x1) 14241 ∧ vp_in (f_X9_atFrame (σ.1 469 (12 + x1).toNatClampNeg) (σ.1 469 (24 + x1).toNatClampNeg) (2 + x2)) 14241))))))
set_option maxRecDepth 100000 in
set_option maxHeartbeats 1000000 in
theorem c_X9_register {nx : Nat} (x1 : Int32) (x2 : Int32) (σ : zS) (hp : p_X9_register x1 x2 σ) : zCl 3 zall nx zall nx 272 [.inr (9, 57, 468), .inl x1, .inl x2] σ (fun v σ1 => v = some (.inl (f_X9_register x1 x2 σ)) ∧ σ1 = σ) := by
  refine zmeth (cd := kX9_register) [] 1000 (Nat.le_of_ble_eq_true rfl) rfl okX9_register (Nat.le_refl _) (Nat.le_of_ble_eq_true rfl) ?_
  refine zCl.use (c_X9_isWindow x1 σ hp.1) (Nat.le_of_ble_eq_true rfl) ?_
  rintro _ σz ⟨rfl, hz⟩
  subst σz
  refine And.intro (fun (h1 : (f_X9_isWindow x1 σ) = 0) => ?_) (fun (h1 : ¬ (f_X9_isWindow x1 σ) = 0) => ?_)
  · exact And.intro rfl (And.intro rfl ⟨by rw [f_X9_register, if_pos h1] <;> rfl, rfl⟩)
  · refine zCl.use (c_X9_isFree x1 σ (hp.2 h1).1) (Nat.le_of_ble_eq_true rfl) ?_
    rintro _ σz ⟨rfl, hz⟩
    subst σz
    refine And.intro (fun (h2 : ¬ (f_X9_isFree x1 σ) = 0) => ?_) (fun (h2 : (f_X9_isFree x1 σ) = 0) => ?_)
    · exact And.intro rfl (And.intro rfl ⟨by rw [f_X9_register, if_neg h1, if_neg h2] <;> rfl, rfl⟩)
    · refine zCl.use (c_X9_isIn x2 0 3 σ) (Nat.le_of_ble_eq_true rfl) ?_
      rintro _ σz ⟨rfl, hz⟩
      subst σz
      refine And.intro (fun (h3 : ¬ (f_X9_isIn x2 0 3) = 0) => ?_) (fun (h3 : (f_X9_isIn x2 0 3) = 0) => ?_)
      · refine And.intro (((hp.2 h1).2 h2) h3).1 ?_
        refine And.intro (((hp.2 h1).2 h2) h3).2.1 ?_
        refine zCl.use (c_X9_atFrame (σ.1 469 (12 + x1).toNatClampNeg) (σ.1 469 (24 + x1).toNatClampNeg) (2 + x2) σ) (Nat.le_of_ble_eq_true rfl) ?_
        rintro _ σz ⟨rfl, hz⟩
        subst σz
        refine And.intro (((hp.2 h1).2 h2) h3).2.2 ?_
        exact And.intro rfl (And.intro rfl ⟨by rw [f_X9_register, if_neg h1, if_pos h2, if_neg h3] <;> rfl, rfl⟩)
      · exact And.intro rfl (And.intro rfl ⟨by rw [f_X9_register, if_neg h1, if_pos h2, if_pos h3] <;> rfl, rfl⟩)
def f_X9_isFrame (x1 : Int32) (x2 : Int32) (σ : zS) : Int32 := if (f_X9_isTask x1 σ) = 0 then 0 else (if (f_X9_isIn x2 1 (f_X9_frames x1 σ)) = 0 then 0 else 1)
def p_X9_isFrame (x1 : Int32) (x2 : Int32) (σ : zS) : Prop := p_X9_isTask x1 σ ∧ (¬ (f_X9_isTask x1 σ) = 0 → p_X9_frames x1 σ)
set_option maxRecDepth 100000 in
set_option maxHeartbeats 1000000 in
theorem c_X9_isFrame {nx : Nat} (x1 : Int32) (x2 : Int32) (σ : zS) (hp : p_X9_isFrame x1 x2 σ) : zCl 3 zall nx zall nx 273 [.inr (9, 57, 468), .inl x1, .inl x2] σ (fun v σ1 => v = some (.inl (f_X9_isFrame x1 x2 σ)) ∧ σ1 = σ) := by
  refine zmeth (cd := kX9_isFrame) [] 1000 (Nat.le_of_ble_eq_true rfl) rfl okX9_isFrame (Nat.le_refl _) (Nat.le_of_ble_eq_true rfl) ?_
  refine zCl.use (c_X9_isTask x1 σ hp.1) (Nat.le_of_ble_eq_true rfl) ?_
  rintro _ σz ⟨rfl, hz⟩
  subst σz
  refine And.intro (fun (h1 : (f_X9_isTask x1 σ) = 0) => ?_) (fun (h1 : ¬ (f_X9_isTask x1 σ) = 0) => ?_)
  · exact And.intro rfl (And.intro rfl (And.intro (Or.inl rfl) ⟨by rw [f_X9_isFrame, if_pos h1] <;> rfl, rfl⟩))
  · refine zCl.use (c_X9_frames x1 σ (hp.2 h1)) (Nat.le_of_ble_eq_true rfl) ?_
    rintro _ σz ⟨rfl, hz⟩
    subst σz
    refine zCl.use (c_X9_isIn x2 1 (f_X9_frames x1 σ) σ) (Nat.le_of_ble_eq_true rfl) ?_
    rintro _ σz ⟨rfl, hz⟩
    subst σz
    refine And.intro (fun (h2 : (f_X9_isIn x2 1 (f_X9_frames x1 σ)) = 0) => ?_) (fun (h2 : ¬ (f_X9_isIn x2 1 (f_X9_frames x1 σ)) = 0) => ?_)
    · exact And.intro rfl (And.intro rfl (And.intro (Or.inl rfl) ⟨by rw [f_X9_isFrame, if_neg h1, if_pos h2] <;> rfl, rfl⟩))
    · exact And.intro rfl (And.intro rfl (And.intro (Or.inr rfl) ⟨by rw [f_X9_isFrame, if_neg h1, if_neg h2] <;> rfl, rfl⟩))
theorem b_X9_isFrame {x1 : Int32} {x2 : Int32} {σ : zS} : f_X9_isFrame x1 x2 σ = 0 ∨ f_X9_isFrame x1 x2 σ = 1 := by
  unfold f_X9_isFrame
  (repeat' split) <;> first | exact Or.inl rfl | exact Or.inr rfl
def f_X9_value (x1 : Int32) (x2 : Int32) (x3 : Int32) (σ : zS) : Int32 := if (f_X9_isFrame x1 x2 σ) = 0 then 0 else (if (f_X9_isIn x3 0 3) = 0 then 0 else (σ.1 469 (f_X9_atFrame x1 x2 (2 + x3)).toNatClampNeg))
def p_X9_value (x1 : Int32) (x2 : Int32) (x3 : Int32) (σ : zS) : Prop := p_X9_isFrame x1 x2 σ ∧ (¬ (f_X9_isFrame x1 x2 σ) = 0 → (¬ (f_X9_isIn x3 0 3) = 0 → vp_in (f_X9_atFrame x1 x2 (2 + x3)) 14241))
set_option maxRecDepth 100000 in
set_option maxHeartbeats 1000000 in
theorem c_X9_value {nx : Nat} (x1 : Int32) (x2 : Int32) (x3 : Int32) (σ : zS) (hp : p_X9_value x1 x2 x3 σ) : zCl 4 zall nx zall nx 274 [.inr (9, 57, 468), .inl x1, .inl x2, .inl x3] σ (fun v σ1 => v = some (.inl (f_X9_value x1 x2 x3 σ)) ∧ σ1 = σ) := by
  refine zmeth (cd := kX9_value) [] 1000 (Nat.le_of_ble_eq_true rfl) rfl okX9_value (Nat.le_refl _) (Nat.le_of_ble_eq_true rfl) ?_
  refine zCl.use (c_X9_isFrame x1 x2 σ hp.1) (Nat.le_of_ble_eq_true rfl) ?_
  rintro _ σz ⟨rfl, hz⟩
  subst σz
  refine And.intro (fun (h1 : (f_X9_isFrame x1 x2 σ) = 0) => ?_) (fun (h1 : ¬ (f_X9_isFrame x1 x2 σ) = 0) => ?_)
  · exact And.intro rfl (And.intro rfl ⟨by rw [f_X9_value, if_pos h1] <;> rfl, rfl⟩)
  · refine zCl.use (c_X9_isIn x3 0 3 σ) (Nat.le_of_ble_eq_true rfl) ?_
    rintro _ σz ⟨rfl, hz⟩
    subst σz
    refine And.intro (fun (h2 : (f_X9_isIn x3 0 3) = 0) => ?_) (fun (h2 : ¬ (f_X9_isIn x3 0 3) = 0) => ?_)
    · exact And.intro rfl (And.intro rfl ⟨by rw [f_X9_value, if_neg h1, if_pos h2] <;> rfl, rfl⟩)
    · refine zCl.use (c_X9_atFrame x1 x2 (2 + x3) σ) (Nat.le_of_ble_eq_true rfl) ?_
      rintro _ σz ⟨rfl, hz⟩
      subst σz
      refine And.intro ((hp.2 h1) h2) ?_
      exact And.intro rfl (And.intro rfl ⟨by rw [f_X9_value, if_neg h1, if_neg h2] <;> rfl, rfl⟩)
def f_X9_where (x1 : Int32) (x2 : Int32) (σ : zS) : Int32 := if (f_X9_isFrame x1 x2 σ) = 0 then (-1) else (if x2 ≤ ((f_X9_frames x1 σ) - (f_X9_resident x1 σ)) then (-2) else (f_X9_windowOf x1 x2 σ))
def p_X9_where (x1 : Int32) (x2 : Int32) (σ : zS) : Prop := p_X9_isFrame x1 x2 σ ∧ (¬ (f_X9_isFrame x1 x2 σ) = 0 → (p_X9_frames x1 σ ∧ (p_X9_resident x1 σ ∧ (¬ x2 ≤ ((f_X9_frames x1 σ) - (f_X9_resident x1 σ)) → p_X9_windowOf x1 x2 σ))))
set_option maxRecDepth 100000 in
set_option maxHeartbeats 1000000 in
theorem c_X9_where {nx : Nat} (x1 : Int32) (x2 : Int32) (σ : zS) (hp : p_X9_where x1 x2 σ) : zCl 4 zall nx zall nx 275 [.inr (9, 57, 468), .inl x1, .inl x2] σ (fun v σ1 => v = some (.inl (f_X9_where x1 x2 σ)) ∧ σ1 = σ) := by
  refine zmeth (cd := kX9_where) [] 1000 (Nat.le_of_ble_eq_true rfl) rfl okX9_where (Nat.le_refl _) (Nat.le_of_ble_eq_true rfl) ?_
  refine zCl.use (c_X9_isFrame x1 x2 σ hp.1) (Nat.le_of_ble_eq_true rfl) ?_
  rintro _ σz ⟨rfl, hz⟩
  subst σz
  refine And.intro (fun (h1 : ¬ (f_X9_isFrame x1 x2 σ) = 0) => ?_) (fun (h1 : (f_X9_isFrame x1 x2 σ) = 0) => ?_)
  · refine zCl.use (c_X9_frames x1 σ (hp.2 h1).1) (Nat.le_of_ble_eq_true rfl) ?_
    rintro _ σz ⟨rfl, hz⟩
    subst σz
    refine zCl.use (c_X9_resident x1 σ (hp.2 h1).2.1) (Nat.le_of_ble_eq_true rfl) ?_
    rintro _ σz ⟨rfl, hz⟩
    subst σz
    refine And.intro (fun (h2 : x2 ≤ ((f_X9_frames x1 σ) - (f_X9_resident x1 σ))) => ?_) (fun (h2 : ¬ x2 ≤ ((f_X9_frames x1 σ) - (f_X9_resident x1 σ))) => ?_)
    · exact And.intro rfl (And.intro rfl ⟨by rw [f_X9_where, if_neg h1, if_pos h2] <;> rfl, rfl⟩)
    · refine zCl.use (c_X9_windowOf x1 x2 σ ((hp.2 h1).2.2 h2)) (Nat.le_of_ble_eq_true rfl) ?_
      rintro _ σz ⟨rfl, hz⟩
      subst σz
      exact And.intro rfl (And.intro rfl ⟨by rw [f_X9_where, if_neg h1, if_neg h2] <;> rfl, rfl⟩)
  · exact And.intro rfl (And.intro rfl ⟨by rw [f_X9_where, if_pos h1] <;> rfl, rfl⟩)
def f_X9_trap (x1 : Int32) (x2 : Int32) (σ : zS) : Int32 := if (f_X9_isIn x1 0 ((σ.1 469 11) - 1)) = 0 then (-1) else (if (f_X9_isIn x2 0 4) = 0 then (-1) else (σ.1 469 ((36 + (5 * x1)) + x2).toNatClampNeg))
def p_X9_trap (x1 : Int32) (x2 : Int32) (σ : zS) : Prop := ¬ (f_X9_isIn x1 0 ((σ.1 469 11) - 1)) = 0 → (¬ (f_X9_isIn x2 0 4) = 0 → vp_in ((36 + (5 * x1)) + x2) 14241)
set_option maxRecDepth 100000 in
set_option maxHeartbeats 1000000 in
theorem c_X9_trap {nx : Nat} (x1 : Int32) (x2 : Int32) (σ : zS) (hp : p_X9_trap x1 x2 σ) : zCl 2 zall nx zall nx 276 [.inr (9, 57, 468), .inl x1, .inl x2] σ (fun v σ1 => v = some (.inl (f_X9_trap x1 x2 σ)) ∧ σ1 = σ) := by
  refine zmeth (cd := kX9_trap) [] 1000 (Nat.le_of_ble_eq_true rfl) rfl okX9_trap (Nat.le_refl _) (Nat.le_of_ble_eq_true rfl) ?_
  refine And.intro (vp_in_iff.mpr (by decide)) ?_
  refine zCl.use (c_X9_isIn x1 0 ((σ.1 469 11) - 1) σ) (Nat.le_of_ble_eq_true rfl) ?_
  rintro _ σz ⟨rfl, hz⟩
  subst σz
  refine And.intro (fun (h1 : (f_X9_isIn x1 0 ((σ.1 469 11) - 1)) = 0) => ?_) (fun (h1 : ¬ (f_X9_isIn x1 0 ((σ.1 469 11) - 1)) = 0) => ?_)
  · exact And.intro rfl (And.intro rfl ⟨by rw [f_X9_trap, if_pos h1] <;> rfl, rfl⟩)
  · refine zCl.use (c_X9_isIn x2 0 4 σ) (Nat.le_of_ble_eq_true rfl) ?_
    rintro _ σz ⟨rfl, hz⟩
    subst σz
    refine And.intro (fun (h2 : (f_X9_isIn x2 0 4) = 0) => ?_) (fun (h2 : ¬ (f_X9_isIn x2 0 4) = 0) => ?_)
    · exact And.intro rfl (And.intro rfl ⟨by rw [f_X9_trap, if_neg h1, if_pos h2] <;> rfl, rfl⟩)
    · refine And.intro ((hp h1) h2) ?_
      exact And.intro rfl (And.intro rfl ⟨by rw [f_X9_trap, if_neg h1, if_neg h2] <;> rfl, rfl⟩)
def u_X9_putAside_h0_1 (N : Nat) (v1 : Int32) (σ : zS) : zS := zuI σ 497 (v1).toNatClampNeg (σ.1 469 (v1).toNatClampNeg)
def l_X9_putAside (N : Nat) : Nat → Int32 → zS → zS
  | 0, _, σ => σ
  | n + 1, v1, σ => if 11440 ≤ v1 then σ else (l_X9_putAside N n (v1 + 1) (u_X9_putAside_h0_1 N v1 σ))
def q_X9_putAside (N : Nat) : Nat → Int32 → zS → Prop
  | 0, _, _ => False
  | n + 1, v1, σ => ¬ 11440 ≤ v1 → (vp_in v1 14241 ∧ (vp_in v1 11440 ∧ q_X9_putAside N n (v1 + 1) (u_X9_putAside_h0_1 N v1 σ)))
set_option maxRecDepth 100000 in
set_option maxHeartbeats 1000000 in
theorem w_X9_putAside {nx : Nat} (N : Nat) : ∀ n : Nat, (∀ (v1 : Int32) (σ : zS), q_X9_putAside N n v1 σ → zWp 1 zall nx 278 (fun v σ1 => v = none ∧ σ1 = l_X9_putAside N n v1 σ) zall nx 2 [some (.inr (9, 57, 468)), some (.inl v1)] [] σ) := by
  intro n
  induction n with
  | zero => exact fun _ _ h => h.elim
  | succ n ih =>
    intro v1 σ hp
    rw [q_X9_putAside] at hp
    refine zvc_sound (cd := kX9_putAside) (cs := [2]) rfl okX9_putAside 1000 _ _ 2 (zseek kX9_putAside 2) _ _ _ zseek_sub ?_
    refine And.intro (fun (h1 : 11440 ≤ v1) => ?_) (fun (h1 : ¬ 11440 ≤ v1) => ?_)
    · exact And.intro rfl (And.intro rfl ⟨rfl, by rw [l_X9_putAside, if_pos h1] <;> rfl⟩)
    · refine And.intro (hp h1).1 ?_
      refine And.intro (hp h1).2.1 ?_
      refine zWp.use (ih (v1 + 1) (u_X9_putAside_h0_1 N v1 σ) (hp h1).2.2) (And.intro rfl (And.intro rfl trivial)) (fun vy σy hy => ?_)
      rw [l_X9_putAside, if_neg h1]; exact hy
def s_X9_putAside (N : Nat) (σ : zS) : zS := l_X9_putAside N N 0 σ
def p_X9_putAside (N : Nat) (σ : zS) : Prop := q_X9_putAside N N 0 σ
set_option maxRecDepth 100000 in
set_option maxHeartbeats 1000000 in
theorem c_X9_putAside {nx : Nat} (N : Nat) (σ : zS) (hp : p_X9_putAside N σ) : zCl 1 zall nx zall nx 278 [.inr (9, 57, 468)] σ (fun v σ1 => v = none ∧ σ1 = s_X9_putAside N σ) := by
  refine zmeth (cd := kX9_putAside) [2] 1000 (Nat.le_of_ble_eq_true rfl) rfl okX9_putAside (Nat.le_refl _) (Nat.le_of_ble_eq_true rfl) ?_
  refine zWp.use ((w_X9_putAside N N) 0 σ hp) (And.intro rfl (And.intro rfl trivial)) (fun vy σy hy => ?_)
  rw [s_X9_putAside]; exact hy
def u_X9_bringBack_h0_1 (N : Nat) (v1 : Int32) (σ : zS) : zS := zuI σ 469 (v1).toNatClampNeg (σ.1 497 (v1).toNatClampNeg)
def l_X9_bringBack (N : Nat) : Nat → Int32 → zS → zS
  | 0, _, σ => σ
  | n + 1, v1, σ => if 11440 ≤ v1 then σ else (l_X9_bringBack N n (v1 + 1) (u_X9_bringBack_h0_1 N v1 σ))
def q_X9_bringBack (N : Nat) : Nat → Int32 → zS → Prop
  | 0, _, _ => False
  | n + 1, v1, σ => ¬ 11440 ≤ v1 → (vp_in v1 11440 ∧ (vp_in v1 14241 ∧ q_X9_bringBack N n (v1 + 1) (u_X9_bringBack_h0_1 N v1 σ)))
set_option maxRecDepth 100000 in
set_option maxHeartbeats 1000000 in
theorem w_X9_bringBack {nx : Nat} (N : Nat) : ∀ n : Nat, (∀ (v1 : Int32) (σ : zS), q_X9_bringBack N n v1 σ → zWp 1 zall nx 279 (fun v σ1 => v = none ∧ σ1 = l_X9_bringBack N n v1 σ) zall nx 2 [some (.inr (9, 57, 468)), some (.inl v1)] [] σ) := by
  intro n
  induction n with
  | zero => exact fun _ _ h => h.elim
  | succ n ih =>
    intro v1 σ hp
    rw [q_X9_bringBack] at hp
    refine zvc_sound (cd := kX9_bringBack) (cs := [2]) rfl okX9_bringBack 1000 _ _ 2 (zseek kX9_bringBack 2) _ _ _ zseek_sub ?_
    refine And.intro (fun (h1 : 11440 ≤ v1) => ?_) (fun (h1 : ¬ 11440 ≤ v1) => ?_)
    · exact And.intro rfl (And.intro rfl ⟨rfl, by rw [l_X9_bringBack, if_pos h1] <;> rfl⟩)
    · refine And.intro (hp h1).1 ?_
      refine And.intro (hp h1).2.1 ?_
      refine zWp.use (ih (v1 + 1) (u_X9_bringBack_h0_1 N v1 σ) (hp h1).2.2) (And.intro rfl (And.intro rfl trivial)) (fun vy σy hy => ?_)
      rw [l_X9_bringBack, if_neg h1]; exact hy
def s_X9_bringBack (N : Nat) (σ : zS) : zS := l_X9_bringBack N N 0 σ
def p_X9_bringBack (N : Nat) (σ : zS) : Prop := q_X9_bringBack N N 0 σ
set_option maxRecDepth 100000 in
set_option maxHeartbeats 1000000 in
theorem c_X9_bringBack {nx : Nat} (N : Nat) (σ : zS) (hp : p_X9_bringBack N σ) : zCl 1 zall nx zall nx 279 [.inr (9, 57, 468)] σ (fun v σ1 => v = none ∧ σ1 = s_X9_bringBack N σ) := by
  refine zmeth (cd := kX9_bringBack) [2] 1000 (Nat.le_of_ble_eq_true rfl) rfl okX9_bringBack (Nat.le_refl _) (Nat.le_of_ble_eq_true rfl) ?_
  refine zWp.use ((w_X9_bringBack N N) 0 σ hp) (And.intro rfl (And.intro rfl trivial)) (fun vy σy hy => ?_)
  rw [s_X9_bringBack]; exact hy
def f_X9_camesBy (x1 : Int32) (x2 : Int32) (σ : zS) : Int32 := if x1 = 0 then ((((σ.1 469 1) - (σ.1 497 1)) * (σ.1 469 8)) + (((σ.1 469 2) - (σ.1 497 2)) * (σ.1 469 9))) else (if x1 = 1 then ((σ.1 469 1) - (σ.1 497 1)) else (if x1 = 2 then ((σ.1 469 2) - (σ.1 497 2)) else x2))
set_option maxRecDepth 100000 in
set_option maxHeartbeats 1000000 in
theorem c_X9_camesBy {nx : Nat} (x1 : Int32) (x2 : Int32) (σ : zS) : zCl 1 zall nx zall nx 280 [.inr (9, 57, 468), .inl x1, .inl x2] σ (fun v σ1 => v = some (.inl (f_X9_camesBy x1 x2 σ)) ∧ σ1 = σ) := by
  refine zmeth (cd := kX9_camesBy) [] 1000 (Nat.le_of_ble_eq_true rfl) rfl okX9_camesBy (Nat.le_refl _) (Nat.le_of_ble_eq_true rfl) ?_
  refine And.intro (vp_in_iff.mpr (by decide)) ?_
  refine And.intro (vp_in_iff.mpr (by decide)) ?_
  refine And.intro (vp_in_iff.mpr (by decide)) ?_
  refine And.intro (vp_in_iff.mpr (by decide)) ?_
  refine And.intro (fun (h1 : ¬ x1 = 0) => ?_) (fun (h1 : x1 = 0) => ?_)
  · refine And.intro (fun (h2 : ¬ x1 = 1) => ?_) (fun (h2 : x1 = 1) => ?_)
    · refine And.intro (fun (h3 : ¬ x1 = 2) => ?_) (fun (h3 : x1 = 2) => ?_)
      · exact And.intro rfl (And.intro rfl ⟨by rw [f_X9_camesBy, if_neg h1, if_neg h2, if_neg h3] <;> rfl, rfl⟩)
      · exact And.intro rfl (And.intro rfl ⟨by rw [f_X9_camesBy, if_neg h1, if_neg h2, if_pos h3] <;> rfl, rfl⟩)
    · exact And.intro rfl (And.intro rfl ⟨by rw [f_X9_camesBy, if_neg h1, if_pos h2] <;> rfl, rfl⟩)
  · refine And.intro (vp_in_iff.mpr (by decide)) ?_
    refine And.intro (vp_in_iff.mpr (by decide)) ?_
    exact And.intro rfl (And.intro rfl ⟨by rw [f_X9_camesBy, if_pos h1] <;> rfl, rfl⟩)
def f_X9_triedWay (x1 : Int32) : Int32 := if x1 = 0 then 0 else (if 3 ≤ x1 then (if x1 = 3 then 2 else 3) else 1)
set_option maxRecDepth 100000 in
set_option maxHeartbeats 1000000 in
theorem c_X9_triedWay {cp : Nat → Bool} {nx : Nat} (x1 : Int32) (σ : zS) : zCl 1 cp nx cp nx 282 [.inl x1] σ (fun v σ1 => v = some (.inl (f_X9_triedWay x1)) ∧ σ1 = σ) := by
  refine zmeth (cd := kX9_triedWay) [] 1000 (Nat.le_of_ble_eq_true rfl) rfl okX9_triedWay (Nat.le_refl _) (Nat.le_of_ble_eq_true rfl) ?_
  refine And.intro (fun (h1 : ¬ x1 = 0) => ?_) (fun (h1 : x1 = 0) => ?_)
  · refine And.intro (fun (h2 : 3 ≤ x1) => ?_) (fun (h2 : ¬ 3 ≤ x1) => ?_)
    · refine And.intro (fun (h3 : ¬ x1 = 3) => ?_) (fun (h3 : x1 = 3) => ?_)
      · exact And.intro rfl (And.intro rfl ⟨by rw [f_X9_triedWay, if_neg h1, if_pos h2, if_neg h3] <;> rfl, rfl⟩)
      · exact And.intro rfl (And.intro rfl ⟨by rw [f_X9_triedWay, if_neg h1, if_pos h2, if_pos h3] <;> rfl, rfl⟩)
    · exact And.intro rfl (And.intro rfl ⟨by rw [f_X9_triedWay, if_neg h1, if_neg h2] <;> rfl, rfl⟩)
  · exact And.intro rfl (And.intro rfl ⟨by rw [f_X9_triedWay, if_pos h1] <;> rfl, rfl⟩)
def f_X9_triedN (x1 : Int32) : Int32 := if x1 = 1 then 2 else (if x1 = 2 then 4 else (if x1 = 4 then 8 else 0))
set_option maxRecDepth 100000 in
set_option maxHeartbeats 1000000 in
theorem c_X9_triedN {cp : Nat → Bool} {nx : Nat} (x1 : Int32) (σ : zS) : zCl 1 cp nx cp nx 283 [.inl x1] σ (fun v σ1 => v = some (.inl (f_X9_triedN x1)) ∧ σ1 = σ) := by
  refine zmeth (cd := kX9_triedN) [] 1000 (Nat.le_of_ble_eq_true rfl) rfl okX9_triedN (Nat.le_refl _) (Nat.le_of_ble_eq_true rfl) ?_
  refine And.intro (fun (h1 : ¬ x1 = 1) => ?_) (fun (h1 : x1 = 1) => ?_)
  · refine And.intro (fun (h2 : ¬ x1 = 2) => ?_) (fun (h2 : x1 = 2) => ?_)
    · refine And.intro (fun (h3 : ¬ x1 = 4) => ?_) (fun (h3 : x1 = 4) => ?_)
      · exact And.intro rfl (And.intro rfl ⟨by rw [f_X9_triedN, if_neg h1, if_neg h2, if_neg h3] <;> rfl, rfl⟩)
      · exact And.intro rfl (And.intro rfl ⟨by rw [f_X9_triedN, if_neg h1, if_neg h2, if_pos h3] <;> rfl, rfl⟩)
    · exact And.intro rfl (And.intro rfl ⟨by rw [f_X9_triedN, if_neg h1, if_pos h2] <;> rfl, rfl⟩)
  · exact And.intro rfl (And.intro rfl ⟨by rw [f_X9_triedN, if_pos h1] <;> rfl, rfl⟩)
def u_X9_keepAct_h0_1 (N : Nat) (v1 : Int32) (σ : zS) : zS := zuI σ 468 55 ((σ.1 468 55) - 1)
def u_X9_keepAct_h0_2 (N : Nat) (v1 : Int32) (σ : zS) : zS := zuI σ 498 (v1).toNatClampNeg (σ.1 498 (v1 + 11440).toNatClampNeg)
def u_X9_keepAct_h1_1 (N : Nat) (v1 : Int32) (σ : zS) : zS := zuI σ 468 55 ((σ.1 468 55) + 1)
def u_X9_keepAct_h1_2 (N : Nat) (v1 : Int32) (σ : zS) : zS := zuI (u_X9_keepAct_h1_1 N v1 σ) 468 56 0
def u_X9_keepAct_h1_3 (N : Nat) (v1 : Int32) (σ : zS) : zS := zuI σ 498 ((11440 * (σ.1 468 55)) + v1).toNatClampNeg (σ.1 469 (v1).toNatClampNeg)
def l_X9_keepAct (N : Nat) : Nat → Nat → Int32 → zS → zS
  | 0, _, _, σ => σ
  | n + 1, 0, v1, σ => if 137280 ≤ v1 then (l_X9_keepAct N n 1 0 (u_X9_keepAct_h0_1 N v1 σ)) else (l_X9_keepAct N n 0 (v1 + 1) (u_X9_keepAct_h0_2 N v1 σ))
  | n + 1, 1, v1, σ => if 11440 ≤ v1 then (u_X9_keepAct_h1_2 N v1 σ) else (l_X9_keepAct N n 1 (v1 + 1) (u_X9_keepAct_h1_3 N v1 σ))
  | _ + 1, _, _, σ => σ
def q_X9_keepAct (N : Nat) : Nat → Nat → Int32 → zS → Prop
  | 0, _, _, _ => False
  | n + 1, 0, v1, σ => (137280 ≤ v1 → q_X9_keepAct N n 1 0 (u_X9_keepAct_h0_1 N v1 σ)) ∧ (¬ 137280 ≤ v1 → (vp_in (v1 + 11440) 148720 ∧ (vp_in v1 148720 ∧ q_X9_keepAct N n 0 (v1 + 1) (u_X9_keepAct_h0_2 N v1 σ))))
  | n + 1, 1, v1, σ => ¬ 11440 ≤ v1 → (vp_in v1 14241 ∧ (vp_in ((11440 * (σ.1 468 55)) + v1) 148720 ∧ q_X9_keepAct N n 1 (v1 + 1) (u_X9_keepAct_h1_3 N v1 σ)))
  | _ + 1, _, _, _ => False
set_option maxRecDepth 100000 in
set_option maxHeartbeats 1000000 in
theorem w_X9_keepAct {nx : Nat} (N : Nat) : ∀ n : Nat, (∀ (v1 : Int32) (σ : zS), q_X9_keepAct N n 0 v1 σ → zWp 1 zall nx 288 (fun v σ1 => v = none ∧ σ1 = l_X9_keepAct N n 0 v1 σ) zall nx 11 [some (.inr (9, 57, 468)), some (.inl v1)] [] σ) ∧ (∀ (v1 : Int32) (σ : zS), q_X9_keepAct N n 1 v1 σ → zWp 1 zall nx 288 (fun v σ1 => v = none ∧ σ1 = l_X9_keepAct N n 1 v1 σ) zall nx 52 [some (.inr (9, 57, 468)), some (.inl v1)] [] σ) := by
  intro n
  induction n with
  | zero => exact ⟨fun _ _ h => h.elim, fun _ _ h => h.elim⟩
  | succ n ih =>
    refine ⟨?_, ?_⟩
    · intro v1 σ hp
      rw [q_X9_keepAct] at hp
      refine zvc_sound (cd := kX9_keepAct) (cs := [11, 52]) rfl okX9_keepAct 1000 _ _ 11 (zseek kX9_keepAct 11) _ _ _ zseek_sub ?_
      refine And.intro (fun (h1 : 137280 ≤ v1) => ?_) (fun (h1 : ¬ 137280 ≤ v1) => ?_)
      · refine zWp.use (ih.2 0 (u_X9_keepAct_h0_1 N v1 σ) (hp.1 h1)) (And.intro rfl (And.intro rfl trivial)) (fun vy σy hy => ?_)
        rw [l_X9_keepAct, if_pos h1]; exact hy
      · refine And.intro (hp.2 h1).1 ?_
        refine And.intro (hp.2 h1).2.1 ?_
        refine zWp.use (ih.1 (v1 + 1) (u_X9_keepAct_h0_2 N v1 σ) (hp.2 h1).2.2) (And.intro rfl (And.intro rfl trivial)) (fun vy σy hy => ?_)
        rw [l_X9_keepAct, if_neg h1]; exact hy
    · intro v1 σ hp
      rw [q_X9_keepAct] at hp
      refine zvc_sound (cd := kX9_keepAct) (cs := [11, 52]) rfl okX9_keepAct 1000 _ _ 52 (zseek kX9_keepAct 52) _ _ _ zseek_sub ?_
      refine And.intro (fun (h1 : 11440 ≤ v1) => ?_) (fun (h1 : ¬ 11440 ≤ v1) => ?_)
      · exact And.intro rfl (And.intro rfl ⟨rfl, by rw [l_X9_keepAct, if_pos h1] <;> rfl⟩)
      · refine And.intro (hp h1).1 ?_
        refine And.intro (hp h1).2.1 ?_
        refine zWp.use (ih.2 (v1 + 1) (u_X9_keepAct_h1_3 N v1 σ) (hp h1).2.2) (And.intro rfl (And.intro rfl trivial)) (fun vy σy hy => ?_)
        rw [l_X9_keepAct, if_neg h1]; exact hy
def s_X9_keepAct (N : Nat) (σ : zS) : zS := if (σ.1 468 55) = 12 then (l_X9_keepAct N N 0 0 σ) else (l_X9_keepAct N N 1 0 σ)
def p_X9_keepAct (N : Nat) (σ : zS) : Prop := (¬ (σ.1 468 55) = 12 → q_X9_keepAct N N 1 0 σ) ∧ ((σ.1 468 55) = 12 → q_X9_keepAct N N 0 0 σ)
set_option maxRecDepth 100000 in
set_option maxHeartbeats 1000000 in
theorem c_X9_keepAct {nx : Nat} (N : Nat) (σ : zS) (hp : p_X9_keepAct N σ) : zCl 1 zall nx zall nx 288 [.inr (9, 57, 468)] σ (fun v σ1 => v = none ∧ σ1 = s_X9_keepAct N σ) := by
  refine zmeth (cd := kX9_keepAct) [11, 52] 1000 (Nat.le_of_ble_eq_true rfl) rfl okX9_keepAct (Nat.le_refl _) (Nat.le_of_ble_eq_true rfl) ?_
  refine And.intro (fun (h1 : ¬ (σ.1 468 55) = 12) => ?_) (fun (h1 : (σ.1 468 55) = 12) => ?_)
  · refine zWp.use ((w_X9_keepAct N N).2 0 σ (hp.1 h1)) (And.intro rfl (And.intro rfl trivial)) (fun vy σy hy => ?_)
    rw [s_X9_keepAct, if_neg h1]; exact hy
  · refine zWp.use ((w_X9_keepAct N N).1 0 σ (hp.2 h1)) (And.intro rfl (And.intro rfl trivial)) (fun vy σy hy => ?_)
    rw [s_X9_keepAct, if_pos h1]; exact hy
def u_X9_swapAll_h0_1 (N : Nat) (v1 : Int32) (σ : zS) : zS := zuI σ 498 ((11440 * (σ.1 468 55)) + v1).toNatClampNeg (σ.1 469 (v1).toNatClampNeg)
def u_X9_swapAll_h0_2 (N : Nat) (v1 : Int32) (σ : zS) : zS := zuI (u_X9_swapAll_h0_1 N v1 σ) 469 (v1).toNatClampNeg (σ.1 498 ((11440 * (σ.1 468 55)) + v1).toNatClampNeg)
def l_X9_swapAll (N : Nat) : Nat → Int32 → zS → zS
  | 0, _, σ => σ
  | n + 1, v1, σ => if 11440 ≤ v1 then σ else (l_X9_swapAll N n (v1 + 1) (u_X9_swapAll_h0_2 N v1 σ))
def q_X9_swapAll (N : Nat) : Nat → Int32 → zS → Prop
  | 0, _, _ => False
  | n + 1, v1, σ => ¬ 11440 ≤ v1 → (vp_in ((11440 * (σ.1 468 55)) + v1) 148720 ∧ (vp_in v1 14241 ∧ q_X9_swapAll N n (v1 + 1) (u_X9_swapAll_h0_2 N v1 σ)))
set_option maxRecDepth 100000 in
set_option maxHeartbeats 1000000 in
theorem w_X9_swapAll {nx : Nat} (N : Nat) : ∀ n : Nat, (∀ (v1 : Int32) (σ : zS), q_X9_swapAll N n v1 σ → zWp 1 zall nx 289 (fun v σ1 => v = none ∧ σ1 = l_X9_swapAll N n v1 σ) zall nx 2 [some (.inr (9, 57, 468)), some (.inl v1), none] [] σ) := by
  intro n
  induction n with
  | zero => exact fun _ _ h => h.elim
  | succ n ih =>
    intro v1 σ hp
    rw [q_X9_swapAll] at hp
    refine zvc_sound (cd := kX9_swapAll) (cs := [2]) rfl okX9_swapAll 1000 _ _ 2 (zseek kX9_swapAll 2) _ _ _ zseek_sub ?_
    refine And.intro (fun (h1 : 11440 ≤ v1) => ?_) (fun (h1 : ¬ 11440 ≤ v1) => ?_)
    · exact And.intro rfl (And.intro rfl ⟨rfl, by rw [l_X9_swapAll, if_pos h1] <;> rfl⟩)
    · refine And.intro (hp h1).1 ?_
      refine And.intro (hp h1).2.1 ?_
      refine And.intro (hp h1).1 ?_
      refine And.intro (hp h1).2.1 ?_
      refine zWp.use (ih (v1 + 1) (u_X9_swapAll_h0_2 N v1 σ) (hp h1).2.2) (And.intro rfl (And.intro rfl trivial)) (fun vy σy hy => ?_)
      rw [l_X9_swapAll, if_neg h1]; exact hy
def s_X9_swapAll (N : Nat) (σ : zS) : zS := l_X9_swapAll N N 0 σ
def p_X9_swapAll (N : Nat) (σ : zS) : Prop := q_X9_swapAll N N 0 σ
set_option maxRecDepth 100000 in
set_option maxHeartbeats 1000000 in
theorem c_X9_swapAll {nx : Nat} (N : Nat) (σ : zS) (hp : p_X9_swapAll N σ) : zCl 1 zall nx zall nx 289 [.inr (9, 57, 468)] σ (fun v σ1 => v = none ∧ σ1 = s_X9_swapAll N σ) := by
  refine zmeth (cd := kX9_swapAll) [2] 1000 (Nat.le_of_ble_eq_true rfl) rfl okX9_swapAll (Nat.le_refl _) (Nat.le_of_ble_eq_true rfl) ?_
  refine zWp.use ((w_X9_swapAll N N) 0 σ hp) (And.intro rfl (And.intro rfl trivial)) (fun vy σy hy => ?_)
  rw [s_X9_swapAll]; exact hy
