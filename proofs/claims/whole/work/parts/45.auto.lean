/-! printed by wip/whole/dec2.py -/
def u_X9_lay_1 (x1 : Int32) (x2 : Int32) (x3 : Int32) (σ : zS) : zS := zuI σ 484 ((800 * x1) + (2 * (σ.1 479 (x1).toNatClampNeg))).toNatClampNeg x2
def u_X9_lay_2 (x1 : Int32) (x2 : Int32) (x3 : Int32) (σ : zS) : zS := zuI (u_X9_lay_1 x1 x2 x3 σ) 484 (((800 * x1) + (2 * ((u_X9_lay_1 x1 x2 x3 σ).1 479 (x1).toNatClampNeg))) + 1).toNatClampNeg x3
def u_X9_lay_3 (x1 : Int32) (x2 : Int32) (x3 : Int32) (σ : zS) : zS := zuI (u_X9_lay_2 x1 x2 x3 σ) 479 (x1).toNatClampNeg (((u_X9_lay_2 x1 x2 x3 σ).1 479 (x1).toNatClampNeg) + 1)
def s_X9_lay (x1 : Int32) (x2 : Int32) (x3 : Int32) (σ : zS) : zS := (u_X9_lay_3 x1 x2 x3 σ)
def p_X9_lay (x1 : Int32) (x2 : Int32) (x3 : Int32) (σ : zS) : Prop := vp_in x1 2 ∧ (vp_in ((800 * x1) + (2 * (σ.1 479 (x1).toNatClampNeg))) 1600 ∧ vp_in (((800 * x1) + (2 * ((u_X9_lay_1 x1 x2 x3 σ).1 479 (x1).toNatClampNeg))) + 1) 1600)
set_option maxRecDepth 100000 in
set_option maxHeartbeats 1000000 in
theorem c_X9_lay {nx : Nat} (x1 : Int32) (x2 : Int32) (x3 : Int32) (σ : zS) (hp : p_X9_lay x1 x2 x3 σ) : zCl 1 zall nx zall nx 184 [.inr (9, 57, 468), .inl x1, .inl x2, .inl x3] σ (fun v σ1 => v = none ∧ σ1 = s_X9_lay x1 x2 x3 σ) := by
  refine zmeth (cd := kX9_lay) [] 1000 (Nat.le_of_ble_eq_true rfl) rfl okX9_lay (Nat.le_refl _) (Nat.le_of_ble_eq_true rfl) ?_
  refine And.intro hp.1 ?_
  refine And.intro hp.2.1 ?_
  refine And.intro hp.1 ?_
  refine And.intro hp.2.2 ?_
  refine And.intro hp.1 ?_
  refine And.intro hp.1 ?_
  exact And.intro rfl (And.intro rfl ⟨rfl, by rw [s_X9_lay] <;> rfl⟩)
def u_X9_push_1 (x1 : Int32) (x2 : Int32) (x3 : Int32) (σ : zS) : zS := zuI σ 489 (σ.1 468 37).toNatClampNeg x1
def u_X9_push_2 (x1 : Int32) (x2 : Int32) (x3 : Int32) (σ : zS) : zS := zuI (u_X9_push_1 x1 x2 x3 σ) 490 ((u_X9_push_1 x1 x2 x3 σ).1 468 37).toNatClampNeg x2
def u_X9_push_3 (x1 : Int32) (x2 : Int32) (x3 : Int32) (σ : zS) : zS := zuI (u_X9_push_2 x1 x2 x3 σ) 491 ((u_X9_push_2 x1 x2 x3 σ).1 468 37).toNatClampNeg x3
def u_X9_push_4 (x1 : Int32) (x2 : Int32) (x3 : Int32) (σ : zS) : zS := zuI (u_X9_push_3 x1 x2 x3 σ) 468 37 (((u_X9_push_3 x1 x2 x3 σ).1 468 37) + 1)
def s_X9_push (x1 : Int32) (x2 : Int32) (x3 : Int32) (σ : zS) : zS := (u_X9_push_4 x1 x2 x3 σ)
def p_X9_push (x1 : Int32) (x2 : Int32) (x3 : Int32) (σ : zS) : Prop := vp_in (σ.1 468 37) 200 ∧ (vp_in ((u_X9_push_1 x1 x2 x3 σ).1 468 37) 200 ∧ vp_in ((u_X9_push_2 x1 x2 x3 σ).1 468 37) 200)
set_option maxRecDepth 100000 in
set_option maxHeartbeats 1000000 in
theorem c_X9_push {nx : Nat} (x1 : Int32) (x2 : Int32) (x3 : Int32) (σ : zS) (hp : p_X9_push x1 x2 x3 σ) : zCl 1 zall nx zall nx 185 [.inr (9, 57, 468), .inl x1, .inl x2, .inl x3] σ (fun v σ1 => v = none ∧ σ1 = s_X9_push x1 x2 x3 σ) := by
  refine zmeth (cd := kX9_push) [] 1000 (Nat.le_of_ble_eq_true rfl) rfl okX9_push (Nat.le_refl _) (Nat.le_of_ble_eq_true rfl) ?_
  refine And.intro hp.1 ?_
  refine And.intro hp.2.1 ?_
  refine And.intro hp.2.2 ?_
  exact And.intro rfl (And.intro rfl ⟨rfl, by rw [s_X9_push] <;> rfl⟩)
def f_X9_top (σ : zS) : Int32 := if (σ.1 468 37) = 0 then (-1) else (σ.1 489 ((σ.1 468 37) - 1).toNatClampNeg)
def p_X9_top (σ : zS) : Prop := ¬ (σ.1 468 37) = 0 → vp_in ((σ.1 468 37) - 1) 200
set_option maxRecDepth 100000 in
set_option maxHeartbeats 1000000 in
theorem c_X9_top {nx : Nat} (σ : zS) (hp : p_X9_top σ) : zCl 1 zall nx zall nx 186 [.inr (9, 57, 468)] σ (fun v σ1 => v = some (.inl (f_X9_top σ)) ∧ σ1 = σ) := by
  refine zmeth (cd := kX9_top) [] 1000 (Nat.le_of_ble_eq_true rfl) rfl okX9_top (Nat.le_refl _) (Nat.le_of_ble_eq_true rfl) ?_
  refine And.intro (fun (h1 : ¬ (σ.1 468 37) = 0) => ?_) (fun (h1 : (σ.1 468 37) = 0) => ?_)
  · refine And.intro (hp h1) ?_
    exact And.intro rfl (And.intro rfl ⟨by rw [f_X9_top, if_neg h1] <;> rfl, rfl⟩)
  · exact And.intro rfl (And.intro rfl ⟨by rw [f_X9_top, if_pos h1] <;> rfl, rfl⟩)
def f_X9_bindsBy (x1 : Int32) : Int32 := if x1 = 2 then 1 else (if x1 = 3 then 1 else (if (f_X9_isIn x1 4 6) = 0 then 0 else 2))
set_option maxRecDepth 100000 in
set_option maxHeartbeats 1000000 in
theorem c_X9_bindsBy {cp : Nat → Bool} {nx : Nat} (x1 : Int32) (σ : zS) : zCl 2 cp nx cp nx 187 [.inl x1] σ (fun v σ1 => v = some (.inl (f_X9_bindsBy x1)) ∧ σ1 = σ) := by
  refine zmeth (cd := kX9_bindsBy) [] 1000 (Nat.le_of_ble_eq_true rfl) rfl okX9_bindsBy (Nat.le_refl _) (Nat.le_of_ble_eq_true rfl) ?_
  refine And.intro (fun (h1 : x1 = 2) => ?_) (fun (h1 : ¬ x1 = 2) => ?_)
  · exact And.intro rfl (And.intro rfl ⟨by rw [f_X9_bindsBy, if_pos h1] <;> rfl, rfl⟩)
  · refine And.intro (fun (h2 : ¬ x1 = 3) => ?_) (fun (h2 : x1 = 3) => ?_)
    · refine zCl.use (c_X9_isIn x1 4 6 σ) (Nat.le_of_ble_eq_true rfl) ?_
      rintro _ σz ⟨rfl, hz⟩
      subst σz
      refine And.intro (fun (h3 : (f_X9_isIn x1 4 6) = 0) => ?_) (fun (h3 : ¬ (f_X9_isIn x1 4 6) = 0) => ?_)
      · exact And.intro rfl (And.intro rfl ⟨by rw [f_X9_bindsBy, if_neg h1, if_neg h2, if_pos h3] <;> rfl, rfl⟩)
      · exact And.intro rfl (And.intro rfl ⟨by rw [f_X9_bindsBy, if_neg h1, if_neg h2, if_neg h3] <;> rfl, rfl⟩)
    · exact And.intro rfl (And.intro rfl ⟨by rw [f_X9_bindsBy, if_neg h1, if_pos h2] <;> rfl, rfl⟩)
def f_X9_between (σ : zS) : Int32 := if (f_X9_isAt 43 σ) = 0 then (if (f_X9_isAt 45 σ) = 0 then (if (f_X9_isAt 42 σ) = 0 then (if (f_X9_isAt 47 σ) = 0 then (if (f_X9_isAt 37 σ) = 0 then (-1) else 6) else 5) else 4) else 3) else 2
def p_X9_between (σ : zS) : Prop := p_X9_isAt 43 σ ∧ ((f_X9_isAt 43 σ) = 0 → (p_X9_isAt 45 σ ∧ ((f_X9_isAt 45 σ) = 0 → (p_X9_isAt 42 σ ∧ ((f_X9_isAt 42 σ) = 0 → (p_X9_isAt 47 σ ∧ ((f_X9_isAt 47 σ) = 0 → p_X9_isAt 37 σ)))))))
set_option maxRecDepth 100000 in
set_option maxHeartbeats 1000000 in
theorem c_X9_between {nx : Nat} (σ : zS) (hp : p_X9_between σ) : zCl 3 zall nx zall nx 188 [.inr (9, 57, 468)] σ (fun v σ1 => v = some (.inl (f_X9_between σ)) ∧ σ1 = σ) := by
  refine zmeth (cd := kX9_between) [] 1000 (Nat.le_of_ble_eq_true rfl) rfl okX9_between (Nat.le_refl _) (Nat.le_of_ble_eq_true rfl) ?_
  refine zCl.use (c_X9_isAt 43 σ hp.1) (Nat.le_of_ble_eq_true rfl) ?_
  rintro _ σz ⟨rfl, hz⟩
  subst σz
  refine And.intro (fun (h1 : (f_X9_isAt 43 σ) = 0) => ?_) (fun (h1 : ¬ (f_X9_isAt 43 σ) = 0) => ?_)
  · refine zCl.use (c_X9_isAt 45 σ (hp.2 h1).1) (Nat.le_of_ble_eq_true rfl) ?_
    rintro _ σz ⟨rfl, hz⟩
    subst σz
    refine And.intro (fun (h2 : (f_X9_isAt 45 σ) = 0) => ?_) (fun (h2 : ¬ (f_X9_isAt 45 σ) = 0) => ?_)
    · refine zCl.use (c_X9_isAt 42 σ ((hp.2 h1).2 h2).1) (Nat.le_of_ble_eq_true rfl) ?_
      rintro _ σz ⟨rfl, hz⟩
      subst σz
      refine And.intro (fun (h3 : (f_X9_isAt 42 σ) = 0) => ?_) (fun (h3 : ¬ (f_X9_isAt 42 σ) = 0) => ?_)
      · refine zCl.use (c_X9_isAt 47 σ (((hp.2 h1).2 h2).2 h3).1) (Nat.le_of_ble_eq_true rfl) ?_
        rintro _ σz ⟨rfl, hz⟩
        subst σz
        refine And.intro (fun (h4 : (f_X9_isAt 47 σ) = 0) => ?_) (fun (h4 : ¬ (f_X9_isAt 47 σ) = 0) => ?_)
        · refine zCl.use (c_X9_isAt 37 σ ((((hp.2 h1).2 h2).2 h3).2 h4)) (Nat.le_of_ble_eq_true rfl) ?_
          rintro _ σz ⟨rfl, hz⟩
          subst σz
          refine And.intro (fun (h5 : (f_X9_isAt 37 σ) = 0) => ?_) (fun (h5 : ¬ (f_X9_isAt 37 σ) = 0) => ?_)
          · exact And.intro rfl (And.intro rfl ⟨by rw [f_X9_between, if_pos h1, if_pos h2, if_pos h3, if_pos h4, if_pos h5] <;> rfl, rfl⟩)
          · exact And.intro rfl (And.intro rfl ⟨by rw [f_X9_between, if_pos h1, if_pos h2, if_pos h3, if_pos h4, if_neg h5] <;> rfl, rfl⟩)
        · exact And.intro rfl (And.intro rfl ⟨by rw [f_X9_between, if_pos h1, if_pos h2, if_pos h3, if_neg h4] <;> rfl, rfl⟩)
      · exact And.intro rfl (And.intro rfl ⟨by rw [f_X9_between, if_pos h1, if_pos h2, if_neg h3] <;> rfl, rfl⟩)
    · exact And.intro rfl (And.intro rfl ⟨by rw [f_X9_between, if_pos h1, if_neg h2] <;> rfl, rfl⟩)
  · exact And.intro rfl (And.intro rfl ⟨by rw [f_X9_between, if_neg h1] <;> rfl, rfl⟩)
def f_X9_isTooMany (x1 : Int32) (σ : zS) : Int32 := if (σ.1 468 39) = 0 then (if (f_X9_top σ) = 105 then (if (σ.1 481 ((6 * x1) + (σ.1 490 ((σ.1 468 37) - 1).toNatClampNeg)).toNatClampNeg) = 0 then 1 else 0) else 0) else 0
def p_X9_isTooMany (x1 : Int32) (σ : zS) : Prop := (σ.1 468 39) = 0 → (p_X9_top σ ∧ ((f_X9_top σ) = 105 → (vp_in ((σ.1 468 37) - 1) 200 ∧ vp_in ((6 * x1) + (σ.1 490 ((σ.1 468 37) - 1).toNatClampNeg)) 12)))
set_option maxRecDepth 100000 in
set_option maxHeartbeats 1000000 in
theorem c_X9_isTooMany {nx : Nat} (x1 : Int32) (σ : zS) (hp : p_X9_isTooMany x1 σ) : zCl 2 zall nx zall nx 190 [.inr (9, 57, 468), .inl x1] σ (fun v σ1 => v = some (.inl (f_X9_isTooMany x1 σ)) ∧ σ1 = σ) := by
  refine zmeth (cd := kX9_isTooMany) [] 1000 (Nat.le_of_ble_eq_true rfl) rfl okX9_isTooMany (Nat.le_refl _) (Nat.le_of_ble_eq_true rfl) ?_
  refine And.intro (fun (h1 : ¬ (σ.1 468 39) = 0) => ?_) (fun (h1 : (σ.1 468 39) = 0) => ?_)
  · exact And.intro rfl (And.intro rfl (And.intro (Or.inl rfl) ⟨by rw [f_X9_isTooMany, if_neg h1] <;> rfl, rfl⟩))
  · refine zCl.use (c_X9_top σ (hp h1).1) (Nat.le_of_ble_eq_true rfl) ?_
    rintro _ σz ⟨rfl, hz⟩
    subst σz
    refine And.intro (fun (h2 : ¬ (f_X9_top σ) = 105) => ?_) (fun (h2 : (f_X9_top σ) = 105) => ?_)
    · exact And.intro rfl (And.intro rfl (And.intro (Or.inl rfl) ⟨by rw [f_X9_isTooMany, if_pos h1, if_neg h2] <;> rfl, rfl⟩))
    · refine And.intro ((hp h1).2 h2).1 ?_
      refine And.intro ((hp h1).2 h2).2 ?_
      refine And.intro (fun (h3 : ¬ (σ.1 481 ((6 * x1) + (σ.1 490 ((σ.1 468 37) - 1).toNatClampNeg)).toNatClampNeg) = 0) => ?_) (fun (h3 : (σ.1 481 ((6 * x1) + (σ.1 490 ((σ.1 468 37) - 1).toNatClampNeg)).toNatClampNeg) = 0) => ?_)
      · exact And.intro rfl (And.intro rfl (And.intro (Or.inl rfl) ⟨by rw [f_X9_isTooMany, if_pos h1, if_pos h2, if_neg h3] <;> rfl, rfl⟩))
      · exact And.intro rfl (And.intro rfl (And.intro (Or.inr rfl) ⟨by rw [f_X9_isTooMany, if_pos h1, if_pos h2, if_pos h3] <;> rfl, rfl⟩))
theorem b_X9_isTooMany {x1 : Int32} {σ : zS} : f_X9_isTooMany x1 σ = 0 ∨ f_X9_isTooMany x1 σ = 1 := by
  unfold f_X9_isTooMany
  (repeat' split) <;> first | exact Or.inl rfl | exact Or.inr rfl
def l_X9_isOpenBehind (N : Nat) : Nat → Int32 → zS → Int32
  | 0, _, σ => 0
  | n + 1, v1, σ => if (f_X9_isBlank v1 σ) = 0 then (if (f_X9_signAt v1 σ) = 40 then 1 else 0) else (l_X9_isOpenBehind N n (v1 + 1) σ)
def q_X9_isOpenBehind (N : Nat) : Nat → Int32 → zS → Prop
  | 0, _, _ => False
  | n + 1, v1, σ => p_X9_isBlank v1 σ ∧ (((f_X9_isBlank v1 σ) = 0 → p_X9_signAt v1 σ) ∧ (¬ (f_X9_isBlank v1 σ) = 0 → q_X9_isOpenBehind N n (v1 + 1) σ))
set_option maxRecDepth 100000 in
set_option maxHeartbeats 1000000 in
theorem w_X9_isOpenBehind {nx : Nat} (N : Nat) : ∀ n : Nat, (∀ (v1 : Int32) (σ : zS), q_X9_isOpenBehind N n v1 σ → zWp 2 zall nx 193 (fun v σ1 => v = some (.inl (l_X9_isOpenBehind N n v1 σ)) ∧ σ1 = σ) zall nx 5 [some (.inr (9, 57, 468)), some (.inl v1)] [] σ) := by
  intro n
  induction n with
  | zero => exact fun _ _ h => h.elim
  | succ n ih =>
    intro v1 σ hp
    rw [q_X9_isOpenBehind] at hp
    refine zvc_sound (cd := kX9_isOpenBehind) (cs := [5]) rfl okX9_isOpenBehind 1000 _ _ 5 (zseek kX9_isOpenBehind 5) _ _ _ zseek_sub ?_
    refine zCl.use (c_X9_isBlank v1 σ hp.1) (Nat.le_of_ble_eq_true rfl) ?_
    rintro _ σz ⟨rfl, hz⟩
    subst σz
    refine And.intro (fun (h1 : (f_X9_isBlank v1 σ) = 0) => ?_) (fun (h1 : ¬ (f_X9_isBlank v1 σ) = 0) => ?_)
    · refine zCl.use (c_X9_signAt v1 σ (hp.2.1 h1)) (Nat.le_of_ble_eq_true rfl) ?_
      rintro _ σz ⟨rfl, hz⟩
      subst σz
      refine And.intro (fun (h2 : ¬ (f_X9_signAt v1 σ) = 40) => ?_) (fun (h2 : (f_X9_signAt v1 σ) = 40) => ?_)
      · exact And.intro rfl (And.intro rfl (And.intro (Or.inl rfl) ⟨by rw [l_X9_isOpenBehind, if_pos h1, if_neg h2] <;> rfl, rfl⟩))
      · exact And.intro rfl (And.intro rfl (And.intro (Or.inr rfl) ⟨by rw [l_X9_isOpenBehind, if_pos h1, if_pos h2] <;> rfl, rfl⟩))
    · refine zWp.use (ih (v1 + 1) σ (hp.2.2 h1)) (And.intro rfl (And.intro rfl trivial)) (fun vy σy hy => ?_)
      rw [l_X9_isOpenBehind, if_neg h1]; exact hy
def f_X9_isOpenBehind (N : Nat) (σ : zS) : Int32 := l_X9_isOpenBehind N N (σ.1 468 20) σ
def p_X9_isOpenBehind (N : Nat) (σ : zS) : Prop := q_X9_isOpenBehind N N (σ.1 468 20) σ
set_option maxRecDepth 100000 in
set_option maxHeartbeats 1000000 in
theorem c_X9_isOpenBehind {nx : Nat} (N : Nat) (σ : zS) (hp : p_X9_isOpenBehind N σ) : zCl 2 zall nx zall nx 193 [.inr (9, 57, 468)] σ (fun v σ1 => v = some (.inl (f_X9_isOpenBehind N σ)) ∧ σ1 = σ) := by
  refine zmeth (cd := kX9_isOpenBehind) [5] 1000 (Nat.le_of_ble_eq_true rfl) rfl okX9_isOpenBehind (Nat.le_refl _) (Nat.le_of_ble_eq_true rfl) ?_
  refine zWp.use ((w_X9_isOpenBehind N N) (σ.1 468 20) σ hp) (And.intro rfl (And.intro rfl trivial)) (fun vy σy hy => ?_)
  rw [f_X9_isOpenBehind]; exact hy
def u_X9_closeMinus_h0_1 (N : Nat) (v1 : Int32) (σ : zS) : zS := s_X9_lay v1 7 0 σ
def u_X9_closeMinus_h0_2 (N : Nat) (v1 : Int32) (σ : zS) : zS := zuI (u_X9_closeMinus_h0_1 N v1 σ) 468 37 (((u_X9_closeMinus_h0_1 N v1 σ).1 468 37) - 1)
def u_X9_closeMinus_h0_3 (N : Nat) (v1 : Int32) (σ : zS) : zS := zuI (u_X9_closeMinus_h0_2 N v1 σ) 468 38 (((u_X9_closeMinus_h0_2 N v1 σ).1 468 38) - 1)
def l_X9_closeMinus (N : Nat) : Nat → Int32 → zS → zS
  | 0, _, σ => σ
  | n + 1, v1, σ => if (f_X9_top σ) = 7 then (l_X9_closeMinus N n v1 (u_X9_closeMinus_h0_3 N v1 σ)) else σ
def q_X9_closeMinus (N : Nat) : Nat → Int32 → zS → Prop
  | 0, _, _ => False
  | n + 1, v1, σ => p_X9_top σ ∧ ((f_X9_top σ) = 7 → (p_X9_lay v1 7 0 σ ∧ q_X9_closeMinus N n v1 (u_X9_closeMinus_h0_3 N v1 σ)))
set_option maxRecDepth 100000 in
set_option maxHeartbeats 1000000 in
theorem w_X9_closeMinus {nx : Nat} (N : Nat) : ∀ n : Nat, (∀ (v1 : Int32) (σ : zS), q_X9_closeMinus N n v1 σ → zWp 2 zall nx 194 (fun v σ1 => v = none ∧ σ1 = l_X9_closeMinus N n v1 σ) zall nx 0 [some (.inr (9, 57, 468)), some (.inl v1)] [] σ) := by
  intro n
  induction n with
  | zero => exact fun _ _ h => h.elim
  | succ n ih =>
    intro v1 σ hp
    rw [q_X9_closeMinus] at hp
    refine zvc_sound (cd := kX9_closeMinus) (cs := [0]) rfl okX9_closeMinus 1000 _ _ 0 (zseek kX9_closeMinus 0) _ _ _ zseek_sub ?_
    refine zCl.use (c_X9_top σ hp.1) (Nat.le_of_ble_eq_true rfl) ?_
    rintro _ σz ⟨rfl, hz⟩
    subst σz
    refine And.intro (fun (h1 : ¬ (f_X9_top σ) = 7) => ?_) (fun (h1 : (f_X9_top σ) = 7) => ?_)
    · exact And.intro rfl (And.intro rfl ⟨rfl, by rw [l_X9_closeMinus, if_neg h1] <;> rfl⟩)
    · refine zCl.use (c_X9_lay v1 7 0 σ (hp.2 h1).1) (Nat.le_of_ble_eq_true rfl) ?_
      rintro _ σz ⟨rfl, hz⟩
      subst σz
      refine zWp.use (ih v1 (u_X9_closeMinus_h0_3 N v1 σ) (hp.2 h1).2) (And.intro rfl (And.intro rfl trivial)) (fun vy σy hy => ?_)
      rw [l_X9_closeMinus, if_pos h1]; exact hy
def s_X9_closeMinus (x1 : Int32) (N : Nat) (σ : zS) : zS := l_X9_closeMinus N N x1 σ
def p_X9_closeMinus (x1 : Int32) (N : Nat) (σ : zS) : Prop := q_X9_closeMinus N N x1 σ
set_option maxRecDepth 100000 in
set_option maxHeartbeats 1000000 in
theorem c_X9_closeMinus {nx : Nat} (x1 : Int32) (N : Nat) (σ : zS) (hp : p_X9_closeMinus x1 N σ) : zCl 2 zall nx zall nx 194 [.inr (9, 57, 468), .inl x1] σ (fun v σ1 => v = none ∧ σ1 = s_X9_closeMinus x1 N σ) := by
  refine zCl.of (Nat.le_of_ble_eq_true rfl) (Nat.le_refl _) (Nat.le_of_ble_eq_true rfl) ?_
  refine zWp.use ((w_X9_closeMinus N N) x1 σ hp) (And.intro rfl (And.intro rfl trivial)) (fun vy σy hy => ?_)
  rw [s_X9_closeMinus]; exact hy
def u_X9_layTop_1 (x1 : Int32) (σ : zS) : zS := zuI σ 468 37 ((σ.1 468 37) - 1)
def u_X9_layTop_2 (x1 : Int32) (σ : zS) : zS := s_X9_lay x1 ((u_X9_layTop_1 x1 σ).1 489 ((u_X9_layTop_1 x1 σ).1 468 37).toNatClampNeg) 0 (u_X9_layTop_1 x1 σ)
def s_X9_layTop (x1 : Int32) (σ : zS) : zS := (u_X9_layTop_2 x1 σ)
def p_X9_layTop (x1 : Int32) (σ : zS) : Prop := vp_in ((u_X9_layTop_1 x1 σ).1 468 37) 200 ∧ p_X9_lay x1 ((u_X9_layTop_1 x1 σ).1 489 ((u_X9_layTop_1 x1 σ).1 468 37).toNatClampNeg) 0 (u_X9_layTop_1 x1 σ)
set_option maxRecDepth 100000 in
set_option maxHeartbeats 1000000 in
theorem c_X9_layTop {nx : Nat} (x1 : Int32) (σ : zS) (hp : p_X9_layTop x1 σ) : zCl 2 zall nx zall nx 198 [.inr (9, 57, 468), .inl x1] σ (fun v σ1 => v = none ∧ σ1 = s_X9_layTop x1 σ) := by
  refine zmeth (cd := kX9_layTop) [] 1000 (Nat.le_of_ble_eq_true rfl) rfl okX9_layTop (Nat.le_refl _) (Nat.le_of_ble_eq_true rfl) ?_
  refine And.intro hp.1 ?_
  refine zCl.use (c_X9_lay x1 ((u_X9_layTop_1 x1 σ).1 489 ((u_X9_layTop_1 x1 σ).1 468 37).toNatClampNeg) 0 (u_X9_layTop_1 x1 σ) hp.2) (Nat.le_of_ble_eq_true rfl) ?_
  rintro _ σz ⟨rfl, hz⟩
  subst σz
  exact And.intro rfl (And.intro rfl ⟨rfl, by rw [s_X9_layTop] <;> rfl⟩)
def f_X9_fault (x1 : Int32) (σ : zS) : Int32 := if x1 = 0 then (σ.1 468 27) else (if x1 = 1 then (σ.1 468 28) else (-1))
set_option maxRecDepth 100000 in
set_option maxHeartbeats 1000000 in
theorem c_X9_fault {cp : Nat → Bool} {nx : Nat} (x1 : Int32) (σ : zS) : zCl 1 cp nx cp nx 205 [.inr (9, 57, 468), .inl x1] σ (fun v σ1 => v = some (.inl (f_X9_fault x1 σ)) ∧ σ1 = σ) := by
  refine zmeth (cd := kX9_fault) [] 1000 (Nat.le_of_ble_eq_true rfl) rfl okX9_fault (Nat.le_refl _) (Nat.le_of_ble_eq_true rfl) ?_
  refine And.intro (fun (h1 : ¬ x1 = 0) => ?_) (fun (h1 : x1 = 0) => ?_)
  · refine And.intro (fun (h2 : ¬ x1 = 1) => ?_) (fun (h2 : x1 = 1) => ?_)
    · exact And.intro rfl (And.intro rfl ⟨by rw [f_X9_fault, if_neg h1, if_neg h2] <;> rfl, rfl⟩)
    · exact And.intro rfl (And.intro rfl ⟨by rw [f_X9_fault, if_neg h1, if_pos h2] <;> rfl, rfl⟩)
  · exact And.intro rfl (And.intro rfl ⟨by rw [f_X9_fault, if_pos h1] <;> rfl, rfl⟩)
def f_X9_many (σ : zS) : Int32 := σ.1 477 (σ.1 468 16).toNatClampNeg
def p_X9_many (σ : zS) : Prop := vp_in (σ.1 468 16) 2
set_option maxRecDepth 100000 in
set_option maxHeartbeats 1000000 in
theorem c_X9_many {nx : Nat} (σ : zS) (hp : p_X9_many σ) : zCl 1 zall nx zall nx 206 [.inr (9, 57, 468)] σ (fun v σ1 => v = some (.inl (f_X9_many σ)) ∧ σ1 = σ) := by
  refine zmeth (cd := kX9_many) [] 1000 (Nat.le_of_ble_eq_true rfl) rfl okX9_many (Nat.le_refl _) (Nat.le_of_ble_eq_true rfl) ?_
  refine And.intro hp ?_
  exact And.intro rfl (And.intro rfl ⟨by rw [f_X9_many] <;> rfl, rfl⟩)
def f_X9_windowsNow (σ : zS) : Int32 := σ.1 470 (σ.1 468 16).toNatClampNeg
def p_X9_windowsNow (σ : zS) : Prop := vp_in (σ.1 468 16) 2
set_option maxRecDepth 100000 in
set_option maxHeartbeats 1000000 in
theorem c_X9_windowsNow {nx : Nat} (σ : zS) (hp : p_X9_windowsNow σ) : zCl 1 zall nx zall nx 207 [.inr (9, 57, 468)] σ (fun v σ1 => v = some (.inl (f_X9_windowsNow σ)) ∧ σ1 = σ) := by
  refine zmeth (cd := kX9_windowsNow) [] 1000 (Nat.le_of_ble_eq_true rfl) rfl okX9_windowsNow (Nat.le_refl _) (Nat.le_of_ble_eq_true rfl) ?_
  refine And.intro hp ?_
  exact And.intro rfl (And.intro rfl ⟨by rw [f_X9_windowsNow] <;> rfl, rfl⟩)
