/-! printed by wip/whole/dec2.py -/
def u_X9_undo_1 (N : Nat) (σ : zS) : zS := zuI σ 468 55 ((σ.1 468 55) - 1)
def u_X9_undo_2 (N : Nat) (σ : zS) : zS := zuI (u_X9_undo_1 N σ) 468 56 (((u_X9_undo_1 N σ).1 468 56) + 1)
def u_X9_undo_3 (N : Nat) (σ : zS) : zS := s_X9_swapAll N (u_X9_undo_2 N σ)
def r_X9_undo (N : Nat) (σ : zS) : Int32 × zS := if (σ.1 468 55) = 0 then (0, σ) else (1, (u_X9_undo_3 N σ))
def p_X9_undo (N : Nat) (σ : zS) : Prop := ¬ (σ.1 468 55) = 0 → p_X9_swapAll N (u_X9_undo_2 N σ)
set_option maxRecDepth 100000 in
set_option maxHeartbeats 1000000 in
theorem c_X9_undo {nx : Nat} (N : Nat) (σ : zS) (hp : p_X9_undo N σ) : zCl 2 zall nx zall nx 290 [.inr (9, 57, 468)] σ (fun v σ1 => v = some (.inl ((r_X9_undo N σ).1)) ∧ σ1 = (r_X9_undo N σ).2) := by
  refine zmeth (cd := kX9_undo) [] 1000 (Nat.le_of_ble_eq_true rfl) rfl okX9_undo (Nat.le_refl _) (Nat.le_of_ble_eq_true rfl) ?_
  refine And.intro (fun (h1 : ¬ (σ.1 468 55) = 0) => ?_) (fun (h1 : (σ.1 468 55) = 0) => ?_)
  · refine zCl.use (c_X9_swapAll N (u_X9_undo_2 N σ) (hp h1)) (Nat.le_of_ble_eq_true rfl) ?_
    rintro _ σz ⟨rfl, hz⟩
    subst σz
    exact And.intro rfl (And.intro rfl (And.intro (Or.inr rfl) ⟨by rw [r_X9_undo, if_neg h1] <;> rfl, by rw [r_X9_undo, if_neg h1] <;> rfl⟩))
  · exact And.intro rfl (And.intro rfl (And.intro (Or.inl rfl) ⟨by rw [r_X9_undo, if_pos h1] <;> rfl, by rw [r_X9_undo, if_pos h1] <;> rfl⟩))
theorem b_X9_undo {N : Nat} {σ : zS} : (r_X9_undo N σ).1 = 0 ∨ (r_X9_undo N σ).1 = 1 := by
  unfold r_X9_undo
  (repeat' split) <;> first | exact Or.inl rfl | exact Or.inr rfl
def u_X9_redo_1 (N : Nat) (σ : zS) : zS := s_X9_swapAll N σ
def u_X9_redo_2 (N : Nat) (σ : zS) : zS := zuI (u_X9_redo_1 N σ) 468 55 (((u_X9_redo_1 N σ).1 468 55) + 1)
def u_X9_redo_3 (N : Nat) (σ : zS) : zS := zuI (u_X9_redo_2 N σ) 468 56 (((u_X9_redo_2 N σ).1 468 56) - 1)
def r_X9_redo (N : Nat) (σ : zS) : Int32 × zS := if (σ.1 468 56) = 0 then (0, σ) else (1, (u_X9_redo_3 N σ))
def p_X9_redo (N : Nat) (σ : zS) : Prop := ¬ (σ.1 468 56) = 0 → p_X9_swapAll N σ
set_option maxRecDepth 100000 in
set_option maxHeartbeats 1000000 in
theorem c_X9_redo {nx : Nat} (N : Nat) (σ : zS) (hp : p_X9_redo N σ) : zCl 2 zall nx zall nx 291 [.inr (9, 57, 468)] σ (fun v σ1 => v = some (.inl ((r_X9_redo N σ).1)) ∧ σ1 = (r_X9_redo N σ).2) := by
  refine zmeth (cd := kX9_redo) [] 1000 (Nat.le_of_ble_eq_true rfl) rfl okX9_redo (Nat.le_refl _) (Nat.le_of_ble_eq_true rfl) ?_
  refine And.intro (fun (h1 : ¬ (σ.1 468 56) = 0) => ?_) (fun (h1 : (σ.1 468 56) = 0) => ?_)
  · refine zCl.use (c_X9_swapAll N σ (hp h1)) (Nat.le_of_ble_eq_true rfl) ?_
    rintro _ σz ⟨rfl, hz⟩
    subst σz
    exact And.intro rfl (And.intro rfl (And.intro (Or.inr rfl) ⟨by rw [r_X9_redo, if_neg h1] <;> rfl, by rw [r_X9_redo, if_neg h1] <;> rfl⟩))
  · exact And.intro rfl (And.intro rfl (And.intro (Or.inl rfl) ⟨by rw [r_X9_redo, if_pos h1] <;> rfl, by rw [r_X9_redo, if_pos h1] <;> rfl⟩))
theorem b_X9_redo {N : Nat} {σ : zS} : (r_X9_redo N σ).1 = 0 ∨ (r_X9_redo N σ).1 = 1 := by
  unfold r_X9_redo
  (repeat' split) <;> first | exact Or.inl rfl | exact Or.inr rfl
def u_X9_image_h0_1 (N : Nat) (v1 : Int32) (v2 : Int32) (σ : zS) : zS := zuI σ 500 (v1).toNatClampNeg (vp_nar .boolean 1)
def u_X9_image_h0_2 (N : Nat) (v1 : Int32) (v2 : Int32) (σ : zS) : zS := zuI σ 499 ((11440 * v1) + v2).toNatClampNeg (σ.1 469 (v2).toNatClampNeg)
def l_X9_image (N : Nat) : Nat → Int32 → Int32 → zS → Int32 × zS
  | 0, _, _, σ => (0, σ)
  | n + 1, v1, v2, σ => if 11440 ≤ v2 then ((u_X9_image_h0_1 N v1 v2 σ).1 469 0, (u_X9_image_h0_1 N v1 v2 σ)) else (l_X9_image N n v1 (v2 + 1) (u_X9_image_h0_2 N v1 v2 σ))
def q_X9_image (N : Nat) : Nat → Int32 → Int32 → zS → Prop
  | 0, _, _, _ => False
  | n + 1, v1, v2, σ => (11440 ≤ v2 → vp_in v1 2) ∧ (¬ 11440 ≤ v2 → (vp_in v2 14241 ∧ (vp_in ((11440 * v1) + v2) 22880 ∧ q_X9_image N n v1 (v2 + 1) (u_X9_image_h0_2 N v1 v2 σ))))
set_option maxRecDepth 100000 in
set_option maxHeartbeats 1000000 in
theorem w_X9_image {nx : Nat} (N : Nat) : ∀ n : Nat, (∀ (v1 : Int32) (v2 : Int32) (σ : zS), q_X9_image N n v1 v2 σ → zWp 2 zall nx 292 (fun v σ1 => v = some (.inl ((l_X9_image N n v1 v2 σ).1)) ∧ σ1 = (l_X9_image N n v1 v2 σ).2) zall nx 13 [some (.inr (9, 57, 468)), some (.inl v1), some (.inl v2)] [] σ) := by
  intro n
  induction n with
  | zero => exact fun _ _ _ h => h.elim
  | succ n ih =>
    intro v1 v2 σ hp
    rw [q_X9_image] at hp
    refine zvc_sound (cd := kX9_image) (cs := [13]) rfl okX9_image 1000 _ _ 13 (zseek kX9_image 13) _ _ _ zseek_sub ?_
    refine And.intro (fun (h1 : 11440 ≤ v2) => ?_) (fun (h1 : ¬ 11440 ≤ v2) => ?_)
    · refine And.intro (hp.1 h1) ?_
      refine And.intro (vp_in_iff.mpr (by decide)) ?_
      exact And.intro rfl (And.intro rfl ⟨by rw [l_X9_image, if_pos h1] <;> rfl, by rw [l_X9_image, if_pos h1] <;> rfl⟩)
    · refine And.intro (hp.2 h1).1 ?_
      refine And.intro (hp.2 h1).2.1 ?_
      refine zWp.use (ih v1 (v2 + 1) (u_X9_image_h0_2 N v1 v2 σ) (hp.2 h1).2.2) (And.intro rfl (And.intro rfl (And.intro rfl trivial))) (fun vy σy hy => ?_)
      rw [l_X9_image, if_neg h1]; exact hy
def r_X9_image (x1 : Int32) (N : Nat) (σ : zS) : Int32 × zS := if (f_X9_isIn x1 0 1) = 0 then (-1, σ) else (l_X9_image N N x1 0 σ)
def p_X9_image (x1 : Int32) (N : Nat) (σ : zS) : Prop := ¬ (f_X9_isIn x1 0 1) = 0 → q_X9_image N N x1 0 σ
set_option maxRecDepth 100000 in
set_option maxHeartbeats 1000000 in
theorem c_X9_image {nx : Nat} (x1 : Int32) (N : Nat) (σ : zS) (hp : p_X9_image x1 N σ) : zCl 2 zall nx zall nx 292 [.inr (9, 57, 468), .inl x1] σ (fun v σ1 => v = some (.inl ((r_X9_image x1 N σ).1)) ∧ σ1 = (r_X9_image x1 N σ).2) := by
  refine zmeth (cd := kX9_image) [13] 1000 (Nat.le_of_ble_eq_true rfl) rfl okX9_image (Nat.le_refl _) (Nat.le_of_ble_eq_true rfl) ?_
  refine zCl.use (c_X9_isIn x1 0 1 σ) (Nat.le_of_ble_eq_true rfl) ?_
  rintro _ σz ⟨rfl, hz⟩
  subst σz
  refine And.intro (fun (h1 : ¬ (f_X9_isIn x1 0 1) = 0) => ?_) (fun (h1 : (f_X9_isIn x1 0 1) = 0) => ?_)
  · refine zWp.use ((w_X9_image N N) x1 0 σ (hp h1)) (And.intro rfl (And.intro rfl (And.intro rfl trivial))) (fun vy σy hy => ?_)
    rw [r_X9_image, if_neg h1]; exact hy
  · exact And.intro rfl (And.intro rfl ⟨by rw [r_X9_image, if_pos h1] <;> rfl, by rw [r_X9_image, if_pos h1] <;> rfl⟩)
def u_X9_back_h0_1 (N : Nat) (v1 : Int32) (v2 : Int32) (σ : zS) : zS := zuI σ 468 55 0
def u_X9_back_h0_2 (N : Nat) (v1 : Int32) (v2 : Int32) (σ : zS) : zS := zuI (u_X9_back_h0_1 N v1 v2 σ) 468 56 0
def u_X9_back_h0_3 (N : Nat) (v1 : Int32) (v2 : Int32) (σ : zS) : zS := zuI σ 469 (v2).toNatClampNeg (σ.1 499 ((11440 * v1) + v2).toNatClampNeg)
def l_X9_back (N : Nat) : Nat → Int32 → Int32 → zS → Int32 × zS
  | 0, _, _, σ => (0, σ)
  | n + 1, v1, v2, σ => if 11440 ≤ v2 then ((u_X9_back_h0_2 N v1 v2 σ).1 469 0, (u_X9_back_h0_2 N v1 v2 σ)) else (l_X9_back N n v1 (v2 + 1) (u_X9_back_h0_3 N v1 v2 σ))
def q_X9_back (N : Nat) : Nat → Int32 → Int32 → zS → Prop
  | 0, _, _, _ => False
  | n + 1, v1, v2, σ => ¬ 11440 ≤ v2 → (vp_in ((11440 * v1) + v2) 22880 ∧ (vp_in v2 14241 ∧ q_X9_back N n v1 (v2 + 1) (u_X9_back_h0_3 N v1 v2 σ)))
set_option maxRecDepth 100000 in
set_option maxHeartbeats 1000000 in
theorem w_X9_back {nx : Nat} (N : Nat) : ∀ n : Nat, (∀ (v1 : Int32) (v2 : Int32) (σ : zS), q_X9_back N n v1 v2 σ → zWp 2 zall nx 293 (fun v σ1 => v = some (.inl ((l_X9_back N n v1 v2 σ).1)) ∧ σ1 = (l_X9_back N n v1 v2 σ).2) zall nx 22 [some (.inr (9, 57, 468)), some (.inl v1), some (.inl v2)] [] σ) := by
  intro n
  induction n with
  | zero => exact fun _ _ _ h => h.elim
  | succ n ih =>
    intro v1 v2 σ hp
    rw [q_X9_back] at hp
    refine zvc_sound (cd := kX9_back) (cs := [22]) rfl okX9_back 1000 _ _ 22 (zseek kX9_back 22) _ _ _ zseek_sub ?_
    refine And.intro (fun (h1 : 11440 ≤ v2) => ?_) (fun (h1 : ¬ 11440 ≤ v2) => ?_)
    · refine And.intro (vp_in_iff.mpr (by decide)) ?_
      exact And.intro rfl (And.intro rfl ⟨by rw [l_X9_back, if_pos h1] <;> rfl, by rw [l_X9_back, if_pos h1] <;> rfl⟩)
    · refine And.intro (hp h1).1 ?_
      refine And.intro (hp h1).2.1 ?_
      refine zWp.use (ih v1 (v2 + 1) (u_X9_back_h0_3 N v1 v2 σ) (hp h1).2.2) (And.intro rfl (And.intro rfl (And.intro rfl trivial))) (fun vy σy hy => ?_)
      rw [l_X9_back, if_neg h1]; exact hy
def r_X9_back (x1 : Int32) (N : Nat) (σ : zS) : Int32 × zS := if (f_X9_isIn x1 0 1) = 0 then (-1, σ) else (if (σ.1 500 (x1).toNatClampNeg) = 0 then (-1, σ) else (l_X9_back N N x1 0 σ))
def p_X9_back (x1 : Int32) (N : Nat) (σ : zS) : Prop := ¬ (f_X9_isIn x1 0 1) = 0 → (vp_in x1 2 ∧ (¬ (σ.1 500 (x1).toNatClampNeg) = 0 → q_X9_back N N x1 0 σ))
set_option maxRecDepth 100000 in
set_option maxHeartbeats 1000000 in
theorem c_X9_back {nx : Nat} (x1 : Int32) (N : Nat) (σ : zS) (hp : p_X9_back x1 N σ) : zCl 2 zall nx zall nx 293 [.inr (9, 57, 468), .inl x1] σ (fun v σ1 => v = some (.inl ((r_X9_back x1 N σ).1)) ∧ σ1 = (r_X9_back x1 N σ).2) := by
  refine zmeth (cd := kX9_back) [22] 1000 (Nat.le_of_ble_eq_true rfl) rfl okX9_back (Nat.le_refl _) (Nat.le_of_ble_eq_true rfl) ?_
  refine zCl.use (c_X9_isIn x1 0 1 σ) (Nat.le_of_ble_eq_true rfl) ?_
  rintro _ σz ⟨rfl, hz⟩
  subst σz
  refine And.intro (fun (h1 : (f_X9_isIn x1 0 1) = 0) => ?_) (fun (h1 : ¬ (f_X9_isIn x1 0 1) = 0) => ?_)
  · exact And.intro rfl (And.intro rfl ⟨by rw [r_X9_back, if_pos h1] <;> rfl, by rw [r_X9_back, if_pos h1] <;> rfl⟩)
  · refine And.intro (hp h1).1 ?_
    refine And.intro (fun (h2 : ¬ (σ.1 500 (x1).toNatClampNeg) = 0) => ?_) (fun (h2 : (σ.1 500 (x1).toNatClampNeg) = 0) => ?_)
    · refine zWp.use ((w_X9_back N N) x1 0 σ ((hp h1).2 h2)) (And.intro rfl (And.intro rfl (And.intro rfl trivial))) (fun vy σy hy => ?_)
      rw [r_X9_back, if_neg h1, if_neg h2]; exact hy
    · exact And.intro rfl (And.intro rfl ⟨by rw [r_X9_back, if_neg h1, if_pos h2] <;> rfl, by rw [r_X9_back, if_neg h1, if_pos h2] <;> rfl⟩)
def l_X9_freeMany (N : Nat) : Nat → Int32 → Int32 → zS → Int32
  | 0, _, _, σ => 0
  | n + 1, v1, v2, σ => if (f_X9_windowsNow σ) ≤ v2 then v1 else (if (f_X9_isFree v2 σ) = 0 then (l_X9_freeMany N n (v1 + 0) (v2 + 1) σ) else (l_X9_freeMany N n (v1 + 1) (v2 + 1) σ))
def q_X9_freeMany (N : Nat) : Nat → Int32 → Int32 → zS → Prop
  | 0, _, _, _ => False
  | n + 1, v1, v2, σ => p_X9_windowsNow σ ∧ (¬ (f_X9_windowsNow σ) ≤ v2 → (p_X9_isFree v2 σ ∧ (((f_X9_isFree v2 σ) = 0 → q_X9_freeMany N n (v1 + 0) (v2 + 1) σ) ∧ (¬ (f_X9_isFree v2 σ) = 0 → q_X9_freeMany N n (v1 + 1) (v2 + 1) σ))))
set_option maxRecDepth 100000 in
set_option maxHeartbeats 1000000 in
theorem w_X9_freeMany {nx : Nat} (N : Nat) : ∀ n : Nat, (∀ (v1 : Int32) (v2 : Int32) (σ : zS), q_X9_freeMany N n v1 v2 σ → zWp 2 zall nx 294 (fun v σ1 => v = some (.inl (l_X9_freeMany N n v1 v2 σ)) ∧ σ1 = σ) zall nx 4 [some (.inr (9, 57, 468)), some (.inl v1), some (.inl v2)] [] σ) := by
  intro n
  induction n with
  | zero => exact fun _ _ _ h => h.elim
  | succ n ih =>
    intro v1 v2 σ hp
    rw [q_X9_freeMany] at hp
    refine zvc_sound (cd := kX9_freeMany) (cs := [4]) rfl okX9_freeMany 1000 _ _ 4 (zseek kX9_freeMany 4) _ _ _ zseek_sub ?_
    refine zCl.use (c_X9_windowsNow σ hp.1) (Nat.le_of_ble_eq_true rfl) ?_
    rintro _ σz ⟨rfl, hz⟩
    subst σz
    refine And.intro (fun (h1 : (f_X9_windowsNow σ) ≤ v2) => ?_) (fun (h1 : ¬ (f_X9_windowsNow σ) ≤ v2) => ?_)
    · exact And.intro rfl (And.intro rfl ⟨by rw [l_X9_freeMany, if_pos h1] <;> rfl, rfl⟩)
    · refine zCl.use (c_X9_isFree v2 σ (hp.2 h1).1) (Nat.le_of_ble_eq_true rfl) ?_
      rintro _ σz ⟨rfl, hz⟩
      subst σz
      refine And.intro (fun (h2 : (f_X9_isFree v2 σ) = 0) => ?_) (fun (h2 : ¬ (f_X9_isFree v2 σ) = 0) => ?_)
      · refine zWp.use (ih (v1 + 0) (v2 + 1) σ ((hp.2 h1).2.1 h2)) (And.intro rfl (And.intro rfl (And.intro rfl trivial))) (fun vy σy hy => ?_)
        rw [l_X9_freeMany, if_neg h1, if_pos h2]; exact hy
      · refine zWp.use (ih (v1 + 1) (v2 + 1) σ ((hp.2 h1).2.2 h2)) (And.intro rfl (And.intro rfl (And.intro rfl trivial))) (fun vy σy hy => ?_)
        rw [l_X9_freeMany, if_neg h1, if_neg h2]; exact hy
def f_X9_freeMany (N : Nat) (σ : zS) : Int32 := l_X9_freeMany N N 0 0 σ
def p_X9_freeMany (N : Nat) (σ : zS) : Prop := q_X9_freeMany N N 0 0 σ
set_option maxRecDepth 100000 in
set_option maxHeartbeats 1000000 in
theorem c_X9_freeMany {nx : Nat} (N : Nat) (σ : zS) (hp : p_X9_freeMany N σ) : zCl 2 zall nx zall nx 294 [.inr (9, 57, 468)] σ (fun v σ1 => v = some (.inl (f_X9_freeMany N σ)) ∧ σ1 = σ) := by
  refine zmeth (cd := kX9_freeMany) [4] 1000 (Nat.le_of_ble_eq_true rfl) rfl okX9_freeMany (Nat.le_refl _) (Nat.le_of_ble_eq_true rfl) ?_
  refine zWp.use ((w_X9_freeMany N N) 0 0 σ hp) (And.intro rfl (And.intro rfl (And.intro rfl trivial))) (fun vy σy hy => ?_)
  rw [f_X9_freeMany]; exact hy
def f_X9_about (x1 : Int32) (N : Nat) (σ : zS) : Int32 := if x1 = 0 then (f_X9_windowsNow σ) else (if x1 = 1 then (σ.1 476 (σ.1 468 16).toNatClampNeg) else (if x1 = 2 then (f_X9_many σ) else (if x1 = 3 then (σ.1 469 0) else (if x1 = 4 then (σ.1 469 1) else (if x1 = 5 then (σ.1 469 2) else (if x1 = 6 then (f_X9_cost σ) else (if x1 = 7 then (σ.1 469 3) else (if x1 = 8 then (σ.1 469 4) else (if x1 = 9 then (σ.1 469 5) else (if x1 = 10 then (σ.1 469 6) else (if x1 = 11 then (σ.1 469 7) else (if x1 = 12 then (σ.1 469 10) else (if x1 = 13 then (f_X9_freeMany N σ) else (if x1 = 14 then (σ.1 468 55) else (if x1 = 15 then (σ.1 468 56) else (if x1 = 16 then (σ.1 468 18) else (if x1 = 17 then (σ.1 478 (σ.1 468 16).toNatClampNeg) else (-1))))))))))))))))))
def p_X9_about (x1 : Int32) (N : Nat) (σ : zS) : Prop := (x1 = 0 → p_X9_windowsNow σ) ∧ (¬ x1 = 0 → ((x1 = 1 → vp_in (σ.1 468 16) 2) ∧ (¬ x1 = 1 → ((x1 = 2 → p_X9_many σ) ∧ (¬ x1 = 2 → (¬ x1 = 3 → (¬ x1 = 4 → (¬ x1 = 5 → (¬ x1 = 6 → (¬ x1 = 7 → (¬ x1 = 8 → (¬ x1 = 9 → (¬ x1 = 10 → (¬ x1 = 11 → (¬ x1 = 12 → ((x1 = 13 → p_X9_freeMany N σ) ∧ (¬ x1 = 13 → (¬ x1 = 14 → (¬ x1 = 15 → (¬ x1 = 16 → (x1 = 17 → vp_in (σ.1 468 16) 2)))))))))))))))))))))
set_option maxRecDepth 100000 in
set_option maxHeartbeats 1000000 in
theorem c_X9_about {nx : Nat} (x1 : Int32) (N : Nat) (σ : zS) (hp : p_X9_about x1 N σ) : zCl 3 zall nx zall nx 295 [.inr (9, 57, 468), .inl x1] σ (fun v σ1 => v = some (.inl (f_X9_about x1 N σ)) ∧ σ1 = σ) := by
  refine zmeth (cd := kX9_about) [] 1000 (Nat.le_of_ble_eq_true rfl) rfl okX9_about (Nat.le_refl _) (Nat.le_of_ble_eq_true rfl) ?_
  refine And.intro (fun (h1 : x1 = 0) => ?_) (fun (h1 : ¬ x1 = 0) => ?_)
  · refine zCl.use (c_X9_windowsNow σ (hp.1 h1)) (Nat.le_of_ble_eq_true rfl) ?_
    rintro _ σz ⟨rfl, hz⟩
    subst σz
    exact And.intro rfl (And.intro rfl ⟨by rw [f_X9_about, if_pos h1] <;> rfl, rfl⟩)
  · refine And.intro (fun (h2 : x1 = 1) => ?_) (fun (h2 : ¬ x1 = 1) => ?_)
    · refine And.intro ((hp.2 h1).1 h2) ?_
      exact And.intro rfl (And.intro rfl ⟨by rw [f_X9_about, if_neg h1, if_pos h2] <;> rfl, rfl⟩)
    · refine And.intro (fun (h3 : x1 = 2) => ?_) (fun (h3 : ¬ x1 = 2) => ?_)
      · refine zCl.use (c_X9_many σ (((hp.2 h1).2 h2).1 h3)) (Nat.le_of_ble_eq_true rfl) ?_
        rintro _ σz ⟨rfl, hz⟩
        subst σz
        exact And.intro rfl (And.intro rfl ⟨by rw [f_X9_about, if_neg h1, if_neg h2, if_pos h3] <;> rfl, rfl⟩)
      · refine And.intro (fun (h4 : x1 = 3) => ?_) (fun (h4 : ¬ x1 = 3) => ?_)
        · refine And.intro (vp_in_iff.mpr (by decide)) ?_
          exact And.intro rfl (And.intro rfl ⟨by rw [f_X9_about, if_neg h1, if_neg h2, if_neg h3, if_pos h4] <;> rfl, rfl⟩)
        · refine And.intro (fun (h5 : x1 = 4) => ?_) (fun (h5 : ¬ x1 = 4) => ?_)
          · refine And.intro (vp_in_iff.mpr (by decide)) ?_
            exact And.intro rfl (And.intro rfl ⟨by rw [f_X9_about, if_neg h1, if_neg h2, if_neg h3, if_neg h4, if_pos h5] <;> rfl, rfl⟩)
          · refine And.intro (fun (h6 : x1 = 5) => ?_) (fun (h6 : ¬ x1 = 5) => ?_)
            · refine And.intro (vp_in_iff.mpr (by decide)) ?_
              exact And.intro rfl (And.intro rfl ⟨by rw [f_X9_about, if_neg h1, if_neg h2, if_neg h3, if_neg h4, if_neg h5, if_pos h6] <;> rfl, rfl⟩)
            · refine And.intro (fun (h7 : x1 = 6) => ?_) (fun (h7 : ¬ x1 = 6) => ?_)
              · refine zCl.use (c_X9_cost σ) (Nat.le_of_ble_eq_true rfl) ?_
                rintro _ σz ⟨rfl, hz⟩
                subst σz
                exact And.intro rfl (And.intro rfl ⟨by rw [f_X9_about, if_neg h1, if_neg h2, if_neg h3, if_neg h4, if_neg h5, if_neg h6, if_pos h7] <;> rfl, rfl⟩)
              · refine And.intro (fun (h8 : x1 = 7) => ?_) (fun (h8 : ¬ x1 = 7) => ?_)
                · refine And.intro (vp_in_iff.mpr (by decide)) ?_
                  exact And.intro rfl (And.intro rfl ⟨by rw [f_X9_about, if_neg h1, if_neg h2, if_neg h3, if_neg h4, if_neg h5, if_neg h6, if_neg h7, if_pos h8] <;> rfl, rfl⟩)
                · refine And.intro (fun (h9 : x1 = 8) => ?_) (fun (h9 : ¬ x1 = 8) => ?_)
                  · refine And.intro (vp_in_iff.mpr (by decide)) ?_
                    exact And.intro rfl (And.intro rfl ⟨by rw [f_X9_about, if_neg h1, if_neg h2, if_neg h3, if_neg h4, if_neg h5, if_neg h6, if_neg h7, if_neg h8, if_pos h9] <;> rfl, rfl⟩)
                  · refine And.intro (fun (h10 : x1 = 9) => ?_) (fun (h10 : ¬ x1 = 9) => ?_)
                    · refine And.intro (vp_in_iff.mpr (by decide)) ?_
                      exact And.intro rfl (And.intro rfl ⟨by rw [f_X9_about, if_neg h1, if_neg h2, if_neg h3, if_neg h4, if_neg h5, if_neg h6, if_neg h7, if_neg h8, if_neg h9, if_pos h10] <;> rfl, rfl⟩)
                    · refine And.intro (fun (h11 : x1 = 10) => ?_) (fun (h11 : ¬ x1 = 10) => ?_)
                      · refine And.intro (vp_in_iff.mpr (by decide)) ?_
                        exact And.intro rfl (And.intro rfl ⟨by rw [f_X9_about, if_neg h1, if_neg h2, if_neg h3, if_neg h4, if_neg h5, if_neg h6, if_neg h7, if_neg h8, if_neg h9, if_neg h10, if_pos h11] <;> rfl, rfl⟩)
                      · refine And.intro (fun (h12 : x1 = 11) => ?_) (fun (h12 : ¬ x1 = 11) => ?_)
                        · refine And.intro (vp_in_iff.mpr (by decide)) ?_
                          exact And.intro rfl (And.intro rfl ⟨by rw [f_X9_about, if_neg h1, if_neg h2, if_neg h3, if_neg h4, if_neg h5, if_neg h6, if_neg h7, if_neg h8, if_neg h9, if_neg h10, if_neg h11, if_pos h12] <;> rfl, rfl⟩)
                        · refine And.intro (fun (h13 : x1 = 12) => ?_) (fun (h13 : ¬ x1 = 12) => ?_)
                          · refine And.intro (vp_in_iff.mpr (by decide)) ?_
                            exact And.intro rfl (And.intro rfl ⟨by rw [f_X9_about, if_neg h1, if_neg h2, if_neg h3, if_neg h4, if_neg h5, if_neg h6, if_neg h7, if_neg h8, if_neg h9, if_neg h10, if_neg h11, if_neg h12, if_pos h13] <;> rfl, rfl⟩)
                          · refine And.intro (fun (h14 : x1 = 13) => ?_) (fun (h14 : ¬ x1 = 13) => ?_)
                            · refine zCl.use (c_X9_freeMany N σ ((((((((((((((hp.2 h1).2 h2).2 h3) h4) h5) h6) h7) h8) h9) h10) h11) h12) h13).1 h14)) (Nat.le_of_ble_eq_true rfl) ?_
                              rintro _ σz ⟨rfl, hz⟩
                              subst σz
                              exact And.intro rfl (And.intro rfl ⟨by rw [f_X9_about, if_neg h1, if_neg h2, if_neg h3, if_neg h4, if_neg h5, if_neg h6, if_neg h7, if_neg h8, if_neg h9, if_neg h10, if_neg h11, if_neg h12, if_neg h13, if_pos h14] <;> rfl, rfl⟩)
                            · refine And.intro (fun (h15 : x1 = 14) => ?_) (fun (h15 : ¬ x1 = 14) => ?_)
                              · exact And.intro rfl (And.intro rfl ⟨by rw [f_X9_about, if_neg h1, if_neg h2, if_neg h3, if_neg h4, if_neg h5, if_neg h6, if_neg h7, if_neg h8, if_neg h9, if_neg h10, if_neg h11, if_neg h12, if_neg h13, if_neg h14, if_pos h15] <;> rfl, rfl⟩)
                              · refine And.intro (fun (h16 : x1 = 15) => ?_) (fun (h16 : ¬ x1 = 15) => ?_)
                                · exact And.intro rfl (And.intro rfl ⟨by rw [f_X9_about, if_neg h1, if_neg h2, if_neg h3, if_neg h4, if_neg h5, if_neg h6, if_neg h7, if_neg h8, if_neg h9, if_neg h10, if_neg h11, if_neg h12, if_neg h13, if_neg h14, if_neg h15, if_pos h16] <;> rfl, rfl⟩)
                                · refine And.intro (fun (h17 : x1 = 16) => ?_) (fun (h17 : ¬ x1 = 16) => ?_)
                                  · exact And.intro rfl (And.intro rfl ⟨by rw [f_X9_about, if_neg h1, if_neg h2, if_neg h3, if_neg h4, if_neg h5, if_neg h6, if_neg h7, if_neg h8, if_neg h9, if_neg h10, if_neg h11, if_neg h12, if_neg h13, if_neg h14, if_neg h15, if_neg h16, if_pos h17] <;> rfl, rfl⟩)
                                  · refine And.intro (fun (h18 : x1 = 17) => ?_) (fun (h18 : ¬ x1 = 17) => ?_)
                                    · refine And.intro ((((((((((((((((((hp.2 h1).2 h2).2 h3) h4) h5) h6) h7) h8) h9) h10) h11) h12) h13).2 h14) h15) h16) h17) h18) ?_
                                      exact And.intro rfl (And.intro rfl ⟨by rw [f_X9_about, if_neg h1, if_neg h2, if_neg h3, if_neg h4, if_neg h5, if_neg h6, if_neg h7, if_neg h8, if_neg h9, if_neg h10, if_neg h11, if_neg h12, if_neg h13, if_neg h14, if_neg h15, if_neg h16, if_neg h17, if_pos h18] <;> rfl, rfl⟩)
                                    · exact And.intro rfl (And.intro rfl ⟨by rw [f_X9_about, if_neg h1, if_neg h2, if_neg h3, if_neg h4, if_neg h5, if_neg h6, if_neg h7, if_neg h8, if_neg h9, if_neg h10, if_neg h11, if_neg h12, if_neg h13, if_neg h14, if_neg h15, if_neg h16, if_neg h17, if_neg h18] <;> rfl, rfl⟩)
def u_J7_fill_53178_h0_1 (n1 : Nat) (q1 : Nat) (N : Nat) (v1 : Int32) (v2 : Int32) (v3 : Int32) (σ : zS) : zS := zuI σ q1 (v2).toNatClampNeg v1
def l_J7_fill_53178 (n1 : Nat) (q1 : Nat) (N : Nat) : Nat → Int32 → Int32 → Int32 → zS → zS
  | 0, _, _, _, σ => σ
  | n + 1, v1, v2, v3, σ => if v3 ≤ v2 then σ else (l_J7_fill_53178 n1 q1 N n v1 (v2 + 1) v3 (u_J7_fill_53178_h0_1 n1 q1 N v1 v2 v3 σ))
def q_J7_fill_53178 (n1 : Nat) (q1 : Nat) (N : Nat) : Nat → Int32 → Int32 → Int32 → zS → Prop
  | 0, _, _, _, _ => False
  | n + 1, v1, v2, v3, σ => ¬ v3 ≤ v2 → (vp_in v2 n1 ∧ q_J7_fill_53178 n1 q1 N n v1 (v2 + 1) v3 (u_J7_fill_53178_h0_1 n1 q1 N v1 v2 v3 σ))
set_option maxRecDepth 100000 in
set_option maxHeartbeats 1000000 in
theorem w_J7_fill_53178 {cp : Nat → Bool} {nx : Nat} (n1 : Nat) (q1 : Nat) (N : Nat) : ∀ n : Nat, (∀ (v1 : Int32) (v2 : Int32) (v3 : Int32) (σ : zS), q_J7_fill_53178 n1 q1 N n v1 v2 v3 σ → zWp 1 cp nx 296 (fun v σ1 => v = none ∧ σ1 = l_J7_fill_53178 n1 q1 N n v1 v2 v3 σ) cp nx 5 [some (.inr (20, n1, q1)), some (.inl v1), some (.inl v2), some (.inl v3)] [] σ) := by
  intro n
  induction n with
  | zero => exact fun _ _ _ _ h => h.elim
  | succ n ih =>
    intro v1 v2 v3 σ hp
    rw [q_J7_fill_53178] at hp
    refine zvc_sound (cd := kJ7_fill_53178) (cs := [5]) rfl okJ7_fill_53178 1000 _ _ 5 (zseek kJ7_fill_53178 5) _ _ _ zseek_sub ?_
    refine And.intro (fun (h1 : v3 ≤ v2) => ?_) (fun (h1 : ¬ v3 ≤ v2) => ?_)
    · exact And.intro rfl (And.intro rfl ⟨rfl, by rw [l_J7_fill_53178, if_pos h1] <;> rfl⟩)
    · refine And.intro (hp h1).1 ?_
      refine zWp.use (ih v1 (v2 + 1) v3 (u_J7_fill_53178_h0_1 n1 q1 N v1 v2 v3 σ) (hp h1).2) (And.intro rfl (And.intro rfl (And.intro rfl (And.intro rfl trivial)))) (fun vy σy hy => ?_)
      rw [l_J7_fill_53178, if_neg h1]; exact hy
def s_J7_fill_53178 (n1 : Nat) (q1 : Nat) (x2 : Int32) (N : Nat) (σ : zS) : zS := l_J7_fill_53178 n1 q1 N N x2 0 (Int32.ofNat n1) σ
def p_J7_fill_53178 (n1 : Nat) (q1 : Nat) (x2 : Int32) (N : Nat) (σ : zS) : Prop := q_J7_fill_53178 n1 q1 N N x2 0 (Int32.ofNat n1) σ
set_option maxRecDepth 100000 in
set_option maxHeartbeats 1000000 in
theorem c_J7_fill_53178 {cp : Nat → Bool} {nx : Nat} (n1 : Nat) (q1 : Nat) (x2 : Int32) (N : Nat) (σ : zS) (hp : p_J7_fill_53178 n1 q1 x2 N σ) : zCl 1 cp nx cp nx 296 [.inr (20, n1, q1), .inl x2] σ (fun v σ1 => v = none ∧ σ1 = s_J7_fill_53178 n1 q1 x2 N σ) := by
  refine zmeth (cd := kJ7_fill_53178) [5] 1000 (Nat.le_of_ble_eq_true rfl) rfl okJ7_fill_53178 (Nat.le_refl _) (Nat.le_of_ble_eq_true rfl) ?_
  refine zWp.use ((w_J7_fill_53178 n1 q1 N N) x2 0 (Int32.ofNat n1) σ hp) (And.intro rfl (And.intro rfl (And.intro rfl (And.intro rfl trivial)))) (fun vy σy hy => ?_)
  rw [s_J7_fill_53178]; exact hy
def f_J0_coder_7d493 (t0 : Nat) : Int32 := 0
set_option maxRecDepth 100000 in
set_option maxHeartbeats 1000000 in
theorem c_J0_coder_7d493 {cp : Nat → Bool} {nx : Nat} (t0 : Nat) (σ : zS) : zCl 1 cp nx cp nx 298 [.inr (30, t0, (1000010 + t0))] σ (fun v σ1 => v = some (.inl (f_J0_coder_7d493 t0)) ∧ σ1 = σ) := by
  refine zmeth (cd := kJ0_coder_7d493) [] 1000 (Nat.le_of_ble_eq_true rfl) rfl okJ0_coder_7d493 (Nat.le_refl _) (Nat.le_of_ble_eq_true rfl) ?_
  refine And.intro (fun (z : (1 : Int32) = 0) => absurd z (by decide)) (fun _ => ?_)
  exact And.intro rfl (And.intro rfl (And.intro rfl ⟨by rw [f_J0_coder_7d493] <;> rfl, rfl⟩))
def f_J0_isLatin1_aae02 (t0 : Nat) : Int32 := 1
set_option maxRecDepth 100000 in
set_option maxHeartbeats 1000000 in
theorem c_J0_isLatin1_aae02 {cp : Nat → Bool} {nx : Nat} (t0 : Nat) (σ : zS) : zCl 1 cp nx cp nx 299 [.inr (30, t0, (1000010 + t0))] σ (fun v σ1 => v = some (.inl (f_J0_isLatin1_aae02 t0)) ∧ σ1 = σ) := by
  refine zmeth (cd := kJ0_isLatin1_aae02) [] 1000 (Nat.le_of_ble_eq_true rfl) rfl okJ0_isLatin1_aae02 (Nat.le_refl _) (Nat.le_of_ble_eq_true rfl) ?_
  refine And.intro (fun (z : (1 : Int32) = 0) => absurd z (by decide)) (fun _ => ?_)
  refine And.intro (fun (z : ¬ (0 : Int32) = 0) => absurd z (by decide)) (fun _ => ?_)
  exact And.intro rfl (And.intro rfl (And.intro (Or.inr rfl) ⟨by rw [f_J0_isLatin1_aae02] <;> rfl, rfl⟩))
theorem b_J0_isLatin1_aae02 {t0 : Nat} : f_J0_isLatin1_aae02 t0 = 0 ∨ f_J0_isLatin1_aae02 t0 = 1 := by
  unfold f_J0_isLatin1_aae02
  (repeat' split) <;> first | exact Or.inl rfl | exact Or.inr rfl
def f_J1_charAt_3b067 (t1 : Nat) (x2 : Int32) : Int32 := ((((zsbytL.getD ((1000040 + t1) - 1000040) []).getD (x2).toNatClampNeg 0) &&& 255).toUInt32 % 65536).toInt32
def p_J1_charAt_3b067 (t1 : Nat) (x2 : Int32) (σ : zS) : Prop := p_J0_checkIndex_df160 x2 (Int32.ofNat (zslenL.getD t1 0)) σ ∧ (vp_in x2 (zslenL.getD t1 0) ∧ ((((((zsbytL.getD ((1000040 + t1) - 1000040) []).getD (x2).toNatClampNeg 0) &&& 255).toUInt32 % 65536).toInt32).toUInt32 % 65536).toInt32 = ((((zsbytL.getD ((1000040 + t1) - 1000040) []).getD (x2).toNatClampNeg 0) &&& 255).toUInt32 % 65536).toInt32)
set_option maxRecDepth 100000 in
set_option maxHeartbeats 1000000 in
theorem c_J1_charAt_3b067 {cp : Nat → Bool} {nx : Nat} (t1 : Nat) (x2 : Int32) (σ : zS) (hp : p_J1_charAt_3b067 t1 x2 σ) : zCl 4 cp nx cp nx 303 [.inr (27, (zslenL.getD t1 0), (1000040 + t1)), .inl x2] σ (fun v σ1 => v = some (.inl (f_J1_charAt_3b067 t1 x2)) ∧ σ1 = σ) := by
  refine zmeth (cd := kJ1_charAt_3b067) [] 1000 (Nat.le_of_ble_eq_true rfl) rfl okJ1_charAt_3b067 (Nat.le_refl _) (Nat.le_of_ble_eq_true rfl) ?_
  refine zCl.use (c_J0_checkIndex_df160 x2 (Int32.ofNat (zslenL.getD t1 0)) σ hp.1) (Nat.le_of_ble_eq_true rfl) ?_
  rintro _ σz ⟨rfl, hz⟩
  subst σz
  refine And.intro hp.2.1 ?_
  exact And.intro rfl (And.intro rfl (And.intro hp.2.2 ⟨by rw [f_J1_charAt_3b067] <;> rfl, rfl⟩))
def f_J1_canEncode_9a6ad (x1 : Int32) : Int32 := if x1 < 0 then 0 else (if 255 < x1 then 0 else 1)
set_option maxRecDepth 100000 in
set_option maxHeartbeats 1000000 in
theorem c_J1_canEncode_9a6ad {cp : Nat → Bool} {nx : Nat} (x1 : Int32) (σ : zS) : zCl 1 cp nx cp nx 304 [.inl x1] σ (fun v σ1 => v = some (.inl (f_J1_canEncode_9a6ad x1)) ∧ σ1 = σ) := by
  refine zmeth (cd := kJ1_canEncode_9a6ad) [] 1000 (Nat.le_of_ble_eq_true rfl) rfl okJ1_canEncode_9a6ad (Nat.le_refl _) (Nat.le_of_ble_eq_true rfl) ?_
  refine And.intro (fun (h1 : x1 < 0) => ?_) (fun (h1 : ¬ x1 < 0) => ?_)
  · exact And.intro rfl (And.intro rfl (And.intro (Or.inl rfl) ⟨by rw [f_J1_canEncode_9a6ad, if_pos h1] <;> rfl, rfl⟩))
  · refine And.intro (fun (h2 : 255 < x1) => ?_) (fun (h2 : ¬ 255 < x1) => ?_)
    · exact And.intro rfl (And.intro rfl (And.intro (Or.inl rfl) ⟨by rw [f_J1_canEncode_9a6ad, if_neg h1, if_pos h2] <;> rfl, rfl⟩))
    · exact And.intro rfl (And.intro rfl (And.intro (Or.inr rfl) ⟨by rw [f_J1_canEncode_9a6ad, if_neg h1, if_neg h2] <;> rfl, rfl⟩))
theorem b_J1_canEncode_9a6ad {x1 : Int32} : f_J1_canEncode_9a6ad x1 = 0 ∨ f_J1_canEncode_9a6ad x1 = 1 := by
  unfold f_J1_canEncode_9a6ad
  (repeat' split) <;> first | exact Or.inl rfl | exact Or.inr rfl
def l_J1_indexOfChar_4cfef (t1 : Nat) (N : Nat) : Nat → Int32 → Int32 → Int32 → Int32 → Int32 → zS → Int32
  | 0, _, _, _, _, _, σ => 0
  | n + 1, v1, v2, v3, v4, v5, σ => if v3 ≤ v5 then (-1) else (if ((zsbytL.getD ((1000040 + t1) - 1000040) []).getD (v5).toNatClampNeg 0) = v4 then v5 else (l_J1_indexOfChar_4cfef t1 N n v1 v2 v3 v4 (v5 + 1) σ))
def q_J1_indexOfChar_4cfef (t1 : Nat) (N : Nat) : Nat → Int32 → Int32 → Int32 → Int32 → Int32 → zS → Prop
  | 0, _, _, _, _, _, _ => False
  | n + 1, v1, v2, v3, v4, v5, σ => ¬ v3 ≤ v5 → (vp_in v5 (zslenL.getD t1 0) ∧ (¬ ((zsbytL.getD ((1000040 + t1) - 1000040) []).getD (v5).toNatClampNeg 0) = v4 → q_J1_indexOfChar_4cfef t1 N n v1 v2 v3 v4 (v5 + 1) σ))
set_option maxRecDepth 100000 in
set_option maxHeartbeats 1000000 in
theorem w_J1_indexOfChar_4cfef {cp : Nat → Bool} {nx : Nat} (t1 : Nat) (N : Nat) : ∀ n : Nat, (∀ (v1 : Int32) (v2 : Int32) (v3 : Int32) (v4 : Int32) (v5 : Int32) (σ : zS), q_J1_indexOfChar_4cfef t1 N n v1 v2 v3 v4 v5 σ → zWp 1 cp nx 306 (fun v σ1 => v = some (.inl (l_J1_indexOfChar_4cfef t1 N n v1 v2 v3 v4 v5 σ)) ∧ σ1 = σ) cp nx 7 [some (.inr (27, (zslenL.getD t1 0), (1000040 + t1))), some (.inl v1), some (.inl v2), some (.inl v3), some (.inl v4), some (.inl v5)] [] σ) := by
  intro n
  induction n with
  | zero => exact fun _ _ _ _ _ _ h => h.elim
  | succ n ih =>
    intro v1 v2 v3 v4 v5 σ hp
    rw [q_J1_indexOfChar_4cfef] at hp
    refine zvc_sound (cd := kJ1_indexOfChar_4cfef) (cs := [7]) rfl okJ1_indexOfChar_4cfef 1000 _ _ 7 (zseek kJ1_indexOfChar_4cfef 7) _ _ _ zseek_sub ?_
    refine And.intro (fun (h1 : v3 ≤ v5) => ?_) (fun (h1 : ¬ v3 ≤ v5) => ?_)
    · exact And.intro rfl (And.intro rfl ⟨by rw [l_J1_indexOfChar_4cfef, if_pos h1] <;> rfl, rfl⟩)
    · refine And.intro (hp h1).1 ?_
      refine And.intro (fun (h2 : ¬ ((zsbytL.getD ((1000040 + t1) - 1000040) []).getD (v5).toNatClampNeg 0) = v4) => ?_) (fun (h2 : ((zsbytL.getD ((1000040 + t1) - 1000040) []).getD (v5).toNatClampNeg 0) = v4) => ?_)
      · refine zWp.use (ih v1 v2 v3 v4 (v5 + 1) σ ((hp h1).2 h2)) (And.intro rfl (And.intro rfl (And.intro rfl (And.intro rfl (And.intro rfl (And.intro rfl trivial)))))) (fun vy σy hy => ?_)
        rw [l_J1_indexOfChar_4cfef, if_neg h1, if_neg h2]; exact hy
      · exact And.intro rfl (And.intro rfl ⟨by rw [l_J1_indexOfChar_4cfef, if_neg h1, if_pos h2] <;> rfl, rfl⟩)
def f_J1_indexOfChar_4cfef (t1 : Nat) (x2 : Int32) (x3 : Int32) (x4 : Int32) (N : Nat) (σ : zS) : Int32 := l_J1_indexOfChar_4cfef t1 N N x2 x3 x4 ((x2).toInt8.toInt32) x3 σ
def p_J1_indexOfChar_4cfef (t1 : Nat) (x2 : Int32) (x3 : Int32) (x4 : Int32) (N : Nat) (σ : zS) : Prop := q_J1_indexOfChar_4cfef t1 N N x2 x3 x4 ((x2).toInt8.toInt32) x3 σ
set_option maxRecDepth 100000 in
set_option maxHeartbeats 1000000 in
theorem c_J1_indexOfChar_4cfef {cp : Nat → Bool} {nx : Nat} (t1 : Nat) (x2 : Int32) (x3 : Int32) (x4 : Int32) (N : Nat) (σ : zS) (hp : p_J1_indexOfChar_4cfef t1 x2 x3 x4 N σ) : zCl 1 cp nx cp nx 306 [.inr (27, (zslenL.getD t1 0), (1000040 + t1)), .inl x2, .inl x3, .inl x4] σ (fun v σ1 => v = some (.inl (f_J1_indexOfChar_4cfef t1 x2 x3 x4 N σ)) ∧ σ1 = σ) := by
  refine zmeth (cd := kJ1_indexOfChar_4cfef) [7] 1000 (Nat.le_of_ble_eq_true rfl) rfl okJ1_indexOfChar_4cfef (Nat.le_refl _) (Nat.le_of_ble_eq_true rfl) ?_
  refine zWp.use ((w_J1_indexOfChar_4cfef t1 N N) x2 x3 x4 ((x2).toInt8.toInt32) x3 σ hp) (And.intro rfl (And.intro rfl (And.intro rfl (And.intro rfl (And.intro rfl (And.intro rfl trivial)))))) (fun vy σy hy => ?_)
  rw [f_J1_indexOfChar_4cfef]; exact hy
