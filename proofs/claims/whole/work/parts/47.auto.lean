/-! printed by wip/whole/dec2.py -/
def u_X9_startAnew_h0_1 (N : Nat) (v1 : Int32) (σ : zS) : zS := zuI σ 469 (v1).toNatClampNeg 0
def u_X9_startAnew_h1_1 (N : Nat) (v1 : Int32) (σ : zS) : zS := s_X9_clearRing N σ
def u_X9_startAnew_h1_2 (N : Nat) (v1 : Int32) (σ : zS) : zS := zuI (u_X9_startAnew_h1_1 N v1 σ) 469 5 ((u_X9_startAnew_h1_1 N v1 σ).1 473 ((u_X9_startAnew_h1_1 N v1 σ).1 468 16).toNatClampNeg)
def u_X9_startAnew_h1_3 (N : Nat) (v1 : Int32) (σ : zS) : zS := zuI (u_X9_startAnew_h1_2 N v1 σ) 469 6 ((u_X9_startAnew_h1_2 N v1 σ).1 471 ((u_X9_startAnew_h1_2 N v1 σ).1 468 16).toNatClampNeg)
def u_X9_startAnew_h1_4 (N : Nat) (v1 : Int32) (σ : zS) : zS := zuI (u_X9_startAnew_h1_3 N v1 σ) 469 7 ((u_X9_startAnew_h1_3 N v1 σ).1 472 ((u_X9_startAnew_h1_3 N v1 σ).1 468 16).toNatClampNeg)
def u_X9_startAnew_h1_5 (N : Nat) (v1 : Int32) (σ : zS) : zS := zuI (u_X9_startAnew_h1_4 N v1 σ) 469 8 ((u_X9_startAnew_h1_4 N v1 σ).1 474 ((u_X9_startAnew_h1_4 N v1 σ).1 468 16).toNatClampNeg)
def u_X9_startAnew_h1_6 (N : Nat) (v1 : Int32) (σ : zS) : zS := zuI (u_X9_startAnew_h1_5 N v1 σ) 469 9 ((u_X9_startAnew_h1_5 N v1 σ).1 475 ((u_X9_startAnew_h1_5 N v1 σ).1 468 16).toNatClampNeg)
def u_X9_startAnew_h1_7 (N : Nat) (v1 : Int32) (σ : zS) : zS := zuI (u_X9_startAnew_h1_6 N v1 σ) 469 3 (-1)
def u_X9_startAnew_h1_8 (N : Nat) (v1 : Int32) (σ : zS) : zS := zuI (u_X9_startAnew_h1_7 N v1 σ) 468 55 0
def u_X9_startAnew_h1_9 (N : Nat) (v1 : Int32) (σ : zS) : zS := zuI (u_X9_startAnew_h1_8 N v1 σ) 468 56 0
def u_X9_startAnew_h1_10 (N : Nat) (v1 : Int32) (σ : zS) : zS := zuI (u_X9_startAnew_h1_6 N v1 σ) 469 3 0
def u_X9_startAnew_h1_11 (N : Nat) (v1 : Int32) (σ : zS) : zS := zuI (u_X9_startAnew_h1_10 N v1 σ) 468 55 0
def u_X9_startAnew_h1_12 (N : Nat) (v1 : Int32) (σ : zS) : zS := zuI (u_X9_startAnew_h1_11 N v1 σ) 468 56 0
def u_X9_startAnew_h1_13 (N : Nat) (v1 : Int32) (σ : zS) : zS := s_X9_clearTask v1 N σ
def u_X9_startAnew_h2_1 (N : Nat) (v1 : Int32) (σ : zS) : zS := zuI σ 500 (v1).toNatClampNeg (vp_nar .boolean 0)
def l_X9_startAnew (N : Nat) : Nat → Nat → Int32 → zS → zS
  | 0, _, _, σ => σ
  | n + 1, 0, v1, σ => if 11440 ≤ v1 then (l_X9_startAnew N n 1 0 σ) else (l_X9_startAnew N n 0 (v1 + 1) (u_X9_startAnew_h0_1 N v1 σ))
  | n + 1, 1, v1, σ => if 4 ≤ v1 then (if (f_X9_many (u_X9_startAnew_h1_6 N v1 σ)) ≤ 0 then (l_X9_startAnew N n 2 0 (u_X9_startAnew_h1_9 N v1 σ)) else (l_X9_startAnew N n 2 0 (u_X9_startAnew_h1_12 N v1 σ))) else (l_X9_startAnew N n 1 (v1 + 1) (u_X9_startAnew_h1_13 N v1 σ))
  | n + 1, 2, v1, σ => if 2 ≤ v1 then σ else (l_X9_startAnew N n 2 (v1 + 1) (u_X9_startAnew_h2_1 N v1 σ))
  | _ + 1, _, _, σ => σ
def q_X9_startAnew (N : Nat) : Nat → Nat → Int32 → zS → Prop
  | 0, _, _, _ => False
  | n + 1, 0, v1, σ => (11440 ≤ v1 → q_X9_startAnew N n 1 0 σ) ∧ (¬ 11440 ≤ v1 → (vp_in v1 14241 ∧ q_X9_startAnew N n 0 (v1 + 1) (u_X9_startAnew_h0_1 N v1 σ)))
  | n + 1, 1, v1, σ => (4 ≤ v1 → (p_X9_clearRing N σ ∧ (vp_in ((u_X9_startAnew_h1_1 N v1 σ).1 468 16) 2 ∧ (vp_in ((u_X9_startAnew_h1_2 N v1 σ).1 468 16) 2 ∧ (vp_in ((u_X9_startAnew_h1_3 N v1 σ).1 468 16) 2 ∧ (vp_in ((u_X9_startAnew_h1_4 N v1 σ).1 468 16) 2 ∧ (vp_in ((u_X9_startAnew_h1_5 N v1 σ).1 468 16) 2 ∧ (p_X9_many (u_X9_startAnew_h1_6 N v1 σ) ∧ (((f_X9_many (u_X9_startAnew_h1_6 N v1 σ)) ≤ 0 → q_X9_startAnew N n 2 0 (u_X9_startAnew_h1_9 N v1 σ)) ∧ (¬ (f_X9_many (u_X9_startAnew_h1_6 N v1 σ)) ≤ 0 → q_X9_startAnew N n 2 0 (u_X9_startAnew_h1_12 N v1 σ))))))))))) ∧ (¬ 4 ≤ v1 → (p_X9_clearTask v1 N σ ∧ q_X9_startAnew N n 1 (v1 + 1) (u_X9_startAnew_h1_13 N v1 σ)))
  | n + 1, 2, v1, σ => ¬ 2 ≤ v1 → (vp_in v1 2 ∧ q_X9_startAnew N n 2 (v1 + 1) (u_X9_startAnew_h2_1 N v1 σ))
  | _ + 1, _, _, _ => False
set_option maxRecDepth 100000 in
set_option maxHeartbeats 1000000 in
theorem w_X9_startAnew {nx : Nat} (N : Nat) : ∀ n : Nat, (∀ (v1 : Int32) (σ : zS), q_X9_startAnew N n 0 v1 σ → zWp 3 zall nx 220 (fun v σ1 => v = none ∧ σ1 = l_X9_startAnew N n 0 v1 σ) zall nx 2 [some (.inr (9, 57, 468)), some (.inl v1)] [] σ) ∧ (∀ (v1 : Int32) (σ : zS), q_X9_startAnew N n 1 v1 σ → zWp 3 zall nx 220 (fun v σ1 => v = none ∧ σ1 = l_X9_startAnew N n 1 v1 σ) zall nx 24 [some (.inr (9, 57, 468)), some (.inl v1)] [] σ) ∧ (∀ (v1 : Int32) (σ : zS), q_X9_startAnew N n 2 v1 σ → zWp 3 zall nx 220 (fun v σ1 => v = none ∧ σ1 = l_X9_startAnew N n 2 v1 σ) zall nx 153 [some (.inr (9, 57, 468)), some (.inl v1)] [] σ) := by
  intro n
  induction n with
  | zero => exact ⟨fun _ _ h => h.elim, fun _ _ h => h.elim, fun _ _ h => h.elim⟩
  | succ n ih =>
    refine ⟨?_, ?_, ?_⟩
    · intro v1 σ hp
      rw [q_X9_startAnew] at hp
      refine zvc_sound (cd := kX9_startAnew) (cs := [2, 24, 153]) rfl okX9_startAnew 1000 _ _ 2 (zseek kX9_startAnew 2) _ _ _ zseek_sub ?_
      refine And.intro (fun (h1 : 11440 ≤ v1) => ?_) (fun (h1 : ¬ 11440 ≤ v1) => ?_)
      · refine zWp.use (ih.2.1 0 σ (hp.1 h1)) (And.intro rfl (And.intro rfl trivial)) (fun vy σy hy => ?_)
        rw [l_X9_startAnew, if_pos h1]; exact hy
      · refine And.intro (hp.2 h1).1 ?_
        refine zWp.use (ih.1 (v1 + 1) (u_X9_startAnew_h0_1 N v1 σ) (hp.2 h1).2) (And.intro rfl (And.intro rfl trivial)) (fun vy σy hy => ?_)
        rw [l_X9_startAnew, if_neg h1]; exact hy
    · intro v1 σ hp
      rw [q_X9_startAnew] at hp
      refine zvc_sound (cd := kX9_startAnew) (cs := [2, 24, 153]) rfl okX9_startAnew 1000 _ _ 24 (zseek kX9_startAnew 24) _ _ _ zseek_sub ?_
      refine And.intro (fun (h1 : 4 ≤ v1) => ?_) (fun (h1 : ¬ 4 ≤ v1) => ?_)
      · refine zCl.use (c_X9_clearRing N σ (hp.1 h1).1) (Nat.le_of_ble_eq_true rfl) ?_
        rintro _ σz ⟨rfl, hz⟩
        subst σz
        refine And.intro (hp.1 h1).2.1 ?_
        refine And.intro (vp_in_iff.mpr (by decide)) ?_
        refine And.intro (hp.1 h1).2.2.1 ?_
        refine And.intro (vp_in_iff.mpr (by decide)) ?_
        refine And.intro (hp.1 h1).2.2.2.1 ?_
        refine And.intro (vp_in_iff.mpr (by decide)) ?_
        refine And.intro (hp.1 h1).2.2.2.2.1 ?_
        refine And.intro (vp_in_iff.mpr (by decide)) ?_
        refine And.intro (hp.1 h1).2.2.2.2.2.1 ?_
        refine And.intro (vp_in_iff.mpr (by decide)) ?_
        refine zCl.use (c_X9_many (u_X9_startAnew_h1_6 N v1 σ) (hp.1 h1).2.2.2.2.2.2.1) (Nat.le_of_ble_eq_true rfl) ?_
        rintro _ σz ⟨rfl, hz⟩
        subst σz
        refine And.intro (fun (h2 : (f_X9_many (u_X9_startAnew_h1_6 N v1 σ)) ≤ 0) => ?_) (fun (h2 : ¬ (f_X9_many (u_X9_startAnew_h1_6 N v1 σ)) ≤ 0) => ?_)
        · refine And.intro (vp_in_iff.mpr (by decide)) ?_
          refine zWp.use (ih.2.2 0 (u_X9_startAnew_h1_9 N v1 σ) ((hp.1 h1).2.2.2.2.2.2.2.1 h2)) (And.intro rfl (And.intro rfl trivial)) (fun vy σy hy => ?_)
          rw [l_X9_startAnew, if_pos h1, if_pos h2]; exact hy
        · refine And.intro (vp_in_iff.mpr (by decide)) ?_
          refine zWp.use (ih.2.2 0 (u_X9_startAnew_h1_12 N v1 σ) ((hp.1 h1).2.2.2.2.2.2.2.2 h2)) (And.intro rfl (And.intro rfl trivial)) (fun vy σy hy => ?_)
          rw [l_X9_startAnew, if_pos h1, if_neg h2]; exact hy
      · refine zCl.use (c_X9_clearTask v1 N σ (hp.2 h1).1) (Nat.le_of_ble_eq_true rfl) ?_
        rintro _ σz ⟨rfl, hz⟩
        subst σz
        refine zWp.use (ih.2.1 (v1 + 1) (u_X9_startAnew_h1_13 N v1 σ) (hp.2 h1).2) (And.intro rfl (And.intro rfl trivial)) (fun vy σy hy => ?_)
        rw [l_X9_startAnew, if_neg h1]; exact hy
    · intro v1 σ hp
      rw [q_X9_startAnew] at hp
      refine zvc_sound (cd := kX9_startAnew) (cs := [2, 24, 153]) rfl okX9_startAnew 1000 _ _ 153 (zseek kX9_startAnew 153) _ _ _ zseek_sub ?_
      refine And.intro (fun (h1 : 2 ≤ v1) => ?_) (fun (h1 : ¬ 2 ≤ v1) => ?_)
      · exact And.intro rfl (And.intro rfl ⟨rfl, by rw [l_X9_startAnew, if_pos h1] <;> rfl⟩)
      · refine And.intro (hp h1).1 ?_
        refine zWp.use (ih.2.2 (v1 + 1) (u_X9_startAnew_h2_1 N v1 σ) (hp h1).2) (And.intro rfl (And.intro rfl trivial)) (fun vy σy hy => ?_)
        rw [l_X9_startAnew, if_neg h1]; exact hy
def s_X9_startAnew (N : Nat) (σ : zS) : zS := l_X9_startAnew N N 0 0 σ
def p_X9_startAnew (N : Nat) (σ : zS) : Prop := q_X9_startAnew N N 0 0 σ
set_option maxRecDepth 100000 in
set_option maxHeartbeats 1000000 in
theorem c_X9_startAnew {nx : Nat} (N : Nat) (σ : zS) (hp : p_X9_startAnew N σ) : zCl 3 zall nx zall nx 220 [.inr (9, 57, 468)] σ (fun v σ1 => v = none ∧ σ1 = s_X9_startAnew N σ) := by
  refine zmeth (cd := kX9_startAnew) [2, 24, 153] 1000 (Nat.le_of_ble_eq_true rfl) rfl okX9_startAnew (Nat.le_refl _) (Nat.le_of_ble_eq_true rfl) ?_
  refine zWp.use ((w_X9_startAnew N N).1 0 σ hp) (And.intro rfl (And.intro rfl trivial)) (fun vy σy hy => ?_)
  rw [s_X9_startAnew]; exact hy
def u_X9_put_1 (x1 : Int32) (x2 : Int32) (σ : zS) : zS := zuI σ 469 (f_X9_atStack x1 (σ.1 469 (f_X9_atLies x1).toNatClampNeg)).toNatClampNeg x2
def u_X9_put_2 (x1 : Int32) (x2 : Int32) (σ : zS) : zS := zuI (u_X9_put_1 x1 x2 σ) 469 (f_X9_atLies x1).toNatClampNeg (((u_X9_put_1 x1 x2 σ).1 469 (f_X9_atLies x1).toNatClampNeg) + 1)
def s_X9_put (x1 : Int32) (x2 : Int32) (σ : zS) : zS := (u_X9_put_2 x1 x2 σ)
def p_X9_put (x1 : Int32) (x2 : Int32) (σ : zS) : Prop := vp_in (f_X9_atLies x1) 14241 ∧ vp_in (f_X9_atStack x1 (σ.1 469 (f_X9_atLies x1).toNatClampNeg)) 14241
set_option maxRecDepth 100000 in
set_option maxHeartbeats 1000000 in
theorem c_X9_put {nx : Nat} (x1 : Int32) (x2 : Int32) (σ : zS) (hp : p_X9_put x1 x2 σ) : zCl 2 zall nx zall nx 221 [.inr (9, 57, 468), .inl x1, .inl x2] σ (fun v σ1 => v = none ∧ σ1 = s_X9_put x1 x2 σ) := by
  refine zmeth (cd := kX9_put) [] 1000 (Nat.le_of_ble_eq_true rfl) rfl okX9_put (Nat.le_refl _) (Nat.le_of_ble_eq_true rfl) ?_
  refine zCl.use (c_X9_atLies x1 σ) (Nat.le_of_ble_eq_true rfl) ?_
  rintro _ σz ⟨rfl, hz⟩
  subst σz
  refine And.intro hp.1 ?_
  refine zCl.use (c_X9_atStack x1 (σ.1 469 (f_X9_atLies x1).toNatClampNeg) σ) (Nat.le_of_ble_eq_true rfl) ?_
  rintro _ σz ⟨rfl, hz⟩
  subst σz
  refine And.intro hp.2 ?_
  refine zCl.use (c_X9_atLies x1 (u_X9_put_1 x1 x2 σ)) (Nat.le_of_ble_eq_true rfl) ?_
  rintro _ σz ⟨rfl, hz⟩
  subst σz
  refine And.intro hp.1 ?_
  refine And.intro hp.1 ?_
  exact And.intro rfl (And.intro rfl ⟨rfl, by rw [s_X9_put] <;> rfl⟩)
def u_X9_take_1 (x1 : Int32) (σ : zS) : zS := zuI σ 469 (f_X9_atLies x1).toNatClampNeg ((σ.1 469 (f_X9_atLies x1).toNatClampNeg) - 1)
def r_X9_take (x1 : Int32) (σ : zS) : Int32 × zS := ((u_X9_take_1 x1 σ).1 469 (f_X9_atStack x1 ((u_X9_take_1 x1 σ).1 469 (f_X9_atLies x1).toNatClampNeg)).toNatClampNeg, (u_X9_take_1 x1 σ))
def p_X9_take (x1 : Int32) (σ : zS) : Prop := vp_in (f_X9_atLies x1) 14241 ∧ vp_in (f_X9_atStack x1 ((u_X9_take_1 x1 σ).1 469 (f_X9_atLies x1).toNatClampNeg)) 14241
set_option maxRecDepth 100000 in
set_option maxHeartbeats 1000000 in
theorem c_X9_take {nx : Nat} (x1 : Int32) (σ : zS) (hp : p_X9_take x1 σ) : zCl 2 zall nx zall nx 222 [.inr (9, 57, 468), .inl x1] σ (fun v σ1 => v = some (.inl ((r_X9_take x1 σ).1)) ∧ σ1 = (r_X9_take x1 σ).2) := by
  refine zmeth (cd := kX9_take) [] 1000 (Nat.le_of_ble_eq_true rfl) rfl okX9_take (Nat.le_refl _) (Nat.le_of_ble_eq_true rfl) ?_
  refine zCl.use (c_X9_atLies x1 σ) (Nat.le_of_ble_eq_true rfl) ?_
  rintro _ σz ⟨rfl, hz⟩
  subst σz
  refine And.intro hp.1 ?_
  refine And.intro hp.1 ?_
  refine zCl.use (c_X9_atLies x1 (u_X9_take_1 x1 σ)) (Nat.le_of_ble_eq_true rfl) ?_
  rintro _ σz ⟨rfl, hz⟩
  subst σz
  refine And.intro hp.1 ?_
  refine zCl.use (c_X9_atStack x1 ((u_X9_take_1 x1 σ).1 469 (f_X9_atLies x1).toNatClampNeg) (u_X9_take_1 x1 σ)) (Nat.le_of_ble_eq_true rfl) ?_
  rintro _ σz ⟨rfl, hz⟩
  subst σz
  refine And.intro hp.2 ?_
  exact And.intro rfl (And.intro rfl ⟨by rw [r_X9_take] <;> rfl, by rw [r_X9_take] <;> rfl⟩)
def f_X9_made (x1 : Int32) (x2 : Int32) (x3 : Int32) : Int32 := if x1 = 2 then (x2 + x3) else (if x1 = 3 then (x2 - x3) else (if x1 = 4 then (x2 * x3) else (if x1 = 5 then (if x3 = 0 then 0 else (x2 / x3)) else (if x3 = 0 then 0 else (x2 - x2 / x3 * x3)))))
def p_X9_made (x1 : Int32) (x2 : Int32) (x3 : Int32) (σ : zS) : Prop := ¬ x1 = 2 → (¬ x1 = 3 → (¬ x1 = 4 → ((x1 = 5 → (¬ x3 = 0 → ¬ x3 = 0)) ∧ (¬ x1 = 5 → (¬ x3 = 0 → ¬ x3 = 0)))))
set_option maxRecDepth 100000 in
set_option maxHeartbeats 1000000 in
theorem c_X9_made {cp : Nat → Bool} {nx : Nat} (x1 : Int32) (x2 : Int32) (x3 : Int32) (σ : zS) (hp : p_X9_made x1 x2 x3 σ) : zCl 1 cp nx cp nx 223 [.inl x1, .inl x2, .inl x3] σ (fun v σ1 => v = some (.inl (f_X9_made x1 x2 x3)) ∧ σ1 = σ) := by
  refine zmeth (cd := kX9_made) [] 1000 (Nat.le_of_ble_eq_true rfl) rfl okX9_made (Nat.le_refl _) (Nat.le_of_ble_eq_true rfl) ?_
  refine And.intro (fun (h1 : x1 = 2) => ?_) (fun (h1 : ¬ x1 = 2) => ?_)
  · exact And.intro rfl (And.intro rfl ⟨by rw [f_X9_made, if_pos h1] <;> rfl, rfl⟩)
  · refine And.intro (fun (h2 : x1 = 3) => ?_) (fun (h2 : ¬ x1 = 3) => ?_)
    · exact And.intro rfl (And.intro rfl ⟨by rw [f_X9_made, if_neg h1, if_pos h2] <;> rfl, rfl⟩)
    · refine And.intro (fun (h3 : x1 = 4) => ?_) (fun (h3 : ¬ x1 = 4) => ?_)
      · exact And.intro rfl (And.intro rfl ⟨by rw [f_X9_made, if_neg h1, if_neg h2, if_pos h3] <;> rfl, rfl⟩)
      · refine And.intro (fun (h4 : x1 = 5) => ?_) (fun (h4 : ¬ x1 = 5) => ?_)
        · refine And.intro (fun (h5 : ¬ x3 = 0) => ?_) (fun (h5 : x3 = 0) => ?_)
          · refine And.intro (((((hp h1) h2) h3).1 h4) h5) ?_
            exact And.intro rfl (And.intro rfl ⟨by rw [f_X9_made, if_neg h1, if_neg h2, if_neg h3, if_pos h4, if_neg h5] <;> rfl, rfl⟩)
          · exact And.intro rfl (And.intro rfl ⟨by rw [f_X9_made, if_neg h1, if_neg h2, if_neg h3, if_pos h4, if_pos h5] <;> rfl, rfl⟩)
        · refine And.intro (fun (h6 : ¬ x3 = 0) => ?_) (fun (h6 : x3 = 0) => ?_)
          · refine And.intro (((((hp h1) h2) h3).2 h4) h6) ?_
            exact And.intro rfl (And.intro rfl ⟨by rw [f_X9_made, if_neg h1, if_neg h2, if_neg h3, if_neg h4, if_neg h6] <;> rfl, rfl⟩)
          · exact And.intro rfl (And.intro rfl ⟨by rw [f_X9_made, if_neg h1, if_neg h2, if_neg h3, if_neg h4, if_pos h6] <;> rfl, rfl⟩)
def f_X9_holds (x1 : Int32) (x2 : Int32) (x3 : Int32) : Int32 := if x1 = 9 then (if x3 ≤ x2 then 0 else 1) else (if x1 = 10 then (if x2 ≤ x3 then 0 else 1) else (if x2 = x3 then 1 else 0))
set_option maxRecDepth 100000 in
set_option maxHeartbeats 1000000 in
theorem c_X9_holds {cp : Nat → Bool} {nx : Nat} (x1 : Int32) (x2 : Int32) (x3 : Int32) (σ : zS) : zCl 1 cp nx cp nx 224 [.inl x1, .inl x2, .inl x3] σ (fun v σ1 => v = some (.inl (f_X9_holds x1 x2 x3)) ∧ σ1 = σ) := by
  refine zmeth (cd := kX9_holds) [] 1000 (Nat.le_of_ble_eq_true rfl) rfl okX9_holds (Nat.le_refl _) (Nat.le_of_ble_eq_true rfl) ?_
  refine And.intro (fun (h1 : ¬ x1 = 9) => ?_) (fun (h1 : x1 = 9) => ?_)
  · refine And.intro (fun (h2 : ¬ x1 = 10) => ?_) (fun (h2 : x1 = 10) => ?_)
    · refine And.intro (fun (h3 : ¬ x2 = x3) => ?_) (fun (h3 : x2 = x3) => ?_)
      · exact And.intro rfl (And.intro rfl (And.intro (Or.inl rfl) ⟨by rw [f_X9_holds, if_neg h1, if_neg h2, if_neg h3] <;> rfl, rfl⟩))
      · exact And.intro rfl (And.intro rfl (And.intro (Or.inr rfl) ⟨by rw [f_X9_holds, if_neg h1, if_neg h2, if_pos h3] <;> rfl, rfl⟩))
    · refine And.intro (fun (h4 : x2 ≤ x3) => ?_) (fun (h4 : ¬ x2 ≤ x3) => ?_)
      · exact And.intro rfl (And.intro rfl (And.intro (Or.inl rfl) ⟨by rw [f_X9_holds, if_neg h1, if_pos h2, if_pos h4] <;> rfl, rfl⟩))
      · exact And.intro rfl (And.intro rfl (And.intro (Or.inr rfl) ⟨by rw [f_X9_holds, if_neg h1, if_pos h2, if_neg h4] <;> rfl, rfl⟩))
  · refine And.intro (fun (h5 : x3 ≤ x2) => ?_) (fun (h5 : ¬ x3 ≤ x2) => ?_)
    · exact And.intro rfl (And.intro rfl (And.intro (Or.inl rfl) ⟨by rw [f_X9_holds, if_pos h1, if_pos h5] <;> rfl, rfl⟩))
    · exact And.intro rfl (And.intro rfl (And.intro (Or.inr rfl) ⟨by rw [f_X9_holds, if_pos h1, if_neg h5] <;> rfl, rfl⟩))
theorem b_X9_holds {x1 : Int32} {x2 : Int32} {x3 : Int32} : f_X9_holds x1 x2 x3 = 0 ∨ f_X9_holds x1 x2 x3 = 1 := by
  unfold f_X9_holds
  (repeat' split) <;> first | exact Or.inl rfl | exact Or.inr rfl
def u_X9_enter_h0_1 (N : Nat) (v1 : Int32) (v2 : Int32) (v3 : Int32) (v4 : Int32) (σ : zS) : zS := zuI σ 469 (f_X9_atFrame v1 v3 (2 + v4)).toNatClampNeg 0
def u_X9_enter_h0_2 (N : Nat) (v1 : Int32) (v2 : Int32) (v3 : Int32) (v4 : Int32) (σ : zS) : zS := zuI σ 469 (f_X9_atFrame v1 v3 (2 + v4)).toNatClampNeg (σ.1 492 (v4).toNatClampNeg)
def l_X9_enter (N : Nat) : Nat → Int32 → Int32 → Int32 → Int32 → zS → zS
  | 0, _, _, _, _, σ => σ
  | n + 1, v1, v2, v3, v4, σ => if 4 ≤ v4 then σ else (if (σ.1 481 ((6 * (σ.1 468 16)) + v2).toNatClampNeg) ≤ v4 then (l_X9_enter N n v1 v2 v3 (v4 + 1) (u_X9_enter_h0_1 N v1 v2 v3 v4 σ)) else (l_X9_enter N n v1 v2 v3 (v4 + 1) (u_X9_enter_h0_2 N v1 v2 v3 v4 σ)))
def q_X9_enter (N : Nat) : Nat → Int32 → Int32 → Int32 → Int32 → zS → Prop
  | 0, _, _, _, _, _ => False
  | n + 1, v1, v2, v3, v4, σ => ¬ 4 ≤ v4 → (vp_in ((6 * (σ.1 468 16)) + v2) 12 ∧ (((σ.1 481 ((6 * (σ.1 468 16)) + v2).toNatClampNeg) ≤ v4 → (vp_in (f_X9_atFrame v1 v3 (2 + v4)) 14241 ∧ q_X9_enter N n v1 v2 v3 (v4 + 1) (u_X9_enter_h0_1 N v1 v2 v3 v4 σ))) ∧ (¬ (σ.1 481 ((6 * (σ.1 468 16)) + v2).toNatClampNeg) ≤ v4 → (vp_in v4 4 ∧ (vp_in (f_X9_atFrame v1 v3 (2 + v4)) 14241 ∧ q_X9_enter N n v1 v2 v3 (v4 + 1) (u_X9_enter_h0_2 N v1 v2 v3 v4 σ))))))
set_option maxRecDepth 100000 in
set_option maxHeartbeats 1000000 in
theorem w_X9_enter {nx : Nat} (N : Nat) : ∀ n : Nat, (∀ (v1 : Int32) (v2 : Int32) (v3 : Int32) (v4 : Int32) (σ : zS), q_X9_enter N n v1 v2 v3 v4 σ → zWp 3 zall nx 225 (fun v σ1 => v = none ∧ σ1 = l_X9_enter N n v1 v2 v3 v4 σ) zall nx 60 [some (.inr (9, 57, 468)), some (.inl v1), some (.inl v2), some (.inl v3), some (.inl v4)] [] σ) := by
  intro n
  induction n with
  | zero => exact fun _ _ _ _ _ h => h.elim
  | succ n ih =>
    intro v1 v2 v3 v4 σ hp
    rw [q_X9_enter] at hp
    refine zvc_sound (cd := kX9_enter) (cs := [60]) rfl okX9_enter 1000 _ _ 60 (zseek kX9_enter 60) _ _ _ zseek_sub ?_
    refine And.intro (fun (h1 : 4 ≤ v4) => ?_) (fun (h1 : ¬ 4 ≤ v4) => ?_)
    · exact And.intro rfl (And.intro rfl ⟨rfl, by rw [l_X9_enter, if_pos h1] <;> rfl⟩)
    · refine zCl.use (c_X9_atFrame v1 v3 (2 + v4) σ) (Nat.le_of_ble_eq_true rfl) ?_
      rintro _ σz ⟨rfl, hz⟩
      subst σz
      refine And.intro (hp h1).1 ?_
      refine And.intro (fun (h2 : (σ.1 481 ((6 * (σ.1 468 16)) + v2).toNatClampNeg) ≤ v4) => ?_) (fun (h2 : ¬ (σ.1 481 ((6 * (σ.1 468 16)) + v2).toNatClampNeg) ≤ v4) => ?_)
      · refine And.intro ((hp h1).2.1 h2).1 ?_
        refine zWp.use (ih v1 v2 v3 (v4 + 1) (u_X9_enter_h0_1 N v1 v2 v3 v4 σ) ((hp h1).2.1 h2).2) (And.intro rfl (And.intro rfl (And.intro rfl (And.intro rfl (And.intro rfl trivial))))) (fun vy σy hy => ?_)
        rw [l_X9_enter, if_neg h1, if_pos h2]; exact hy
      · refine And.intro ((hp h1).2.2 h2).1 ?_
        refine And.intro ((hp h1).2.2 h2).2.1 ?_
        refine zWp.use (ih v1 v2 v3 (v4 + 1) (u_X9_enter_h0_2 N v1 v2 v3 v4 σ) ((hp h1).2.2 h2).2.2) (And.intro rfl (And.intro rfl (And.intro rfl (And.intro rfl (And.intro rfl trivial))))) (fun vy σy hy => ?_)
        rw [l_X9_enter, if_neg h1, if_neg h2]; exact hy
def u_X9_enter_1 (x1 : Int32) (x2 : Int32) (N : Nat) (σ : zS) : zS := zuI σ 469 (f_X9_atTask x1 1).toNatClampNeg ((σ.1 469 (f_X9_atTask x1 1).toNatClampNeg) + 1)
def u_X9_enter_2 (x1 : Int32) (x2 : Int32) (N : Nat) (σ : zS) : zS := zuI (u_X9_enter_1 x1 x2 N σ) 469 (f_X9_atFrame x1 (f_X9_frames x1 (u_X9_enter_1 x1 x2 N σ)) 0).toNatClampNeg x2
def u_X9_enter_3 (x1 : Int32) (x2 : Int32) (N : Nat) (σ : zS) : zS := zuI (u_X9_enter_2 x1 x2 N σ) 469 (f_X9_atFrame x1 (f_X9_frames x1 (u_X9_enter_1 x1 x2 N σ)) 1).toNatClampNeg ((u_X9_enter_2 x1 x2 N σ).1 480 ((6 * ((u_X9_enter_2 x1 x2 N σ).1 468 16)) + x2).toNatClampNeg)
def s_X9_enter (x1 : Int32) (x2 : Int32) (N : Nat) (σ : zS) : zS := l_X9_enter N N x1 x2 (f_X9_frames x1 (u_X9_enter_1 x1 x2 N σ)) 0 (u_X9_enter_3 x1 x2 N σ)
def p_X9_enter (x1 : Int32) (x2 : Int32) (N : Nat) (σ : zS) : Prop := vp_in (f_X9_atTask x1 1) 14241 ∧ (p_X9_frames x1 (u_X9_enter_1 x1 x2 N σ) ∧ (vp_in (f_X9_atFrame x1 (f_X9_frames x1 (u_X9_enter_1 x1 x2 N σ)) 0) 14241 ∧ (vp_in ((6 * ((u_X9_enter_2 x1 x2 N σ).1 468 16)) + x2) 12 ∧ (vp_in (f_X9_atFrame x1 (f_X9_frames x1 (u_X9_enter_1 x1 x2 N σ)) 1) 14241 ∧ q_X9_enter N N x1 x2 (f_X9_frames x1 (u_X9_enter_1 x1 x2 N σ)) 0 (u_X9_enter_3 x1 x2 N σ)))))
set_option maxRecDepth 100000 in
set_option maxHeartbeats 1000000 in
theorem c_X9_enter {nx : Nat} (x1 : Int32) (x2 : Int32) (N : Nat) (σ : zS) (hp : p_X9_enter x1 x2 N σ) : zCl 3 zall nx zall nx 225 [.inr (9, 57, 468), .inl x1, .inl x2] σ (fun v σ1 => v = none ∧ σ1 = s_X9_enter x1 x2 N σ) := by
  refine zmeth (cd := kX9_enter) [60] 1000 (Nat.le_of_ble_eq_true rfl) rfl okX9_enter (Nat.le_refl _) (Nat.le_of_ble_eq_true rfl) ?_
  refine zCl.use (c_X9_atTask x1 1 σ) (Nat.le_of_ble_eq_true rfl) ?_
  rintro _ σz ⟨rfl, hz⟩
  subst σz
  refine And.intro hp.1 ?_
  refine And.intro hp.1 ?_
  refine zCl.use (c_X9_frames x1 (u_X9_enter_1 x1 x2 N σ) hp.2.1) (Nat.le_of_ble_eq_true rfl) ?_
  rintro _ σz ⟨rfl, hz⟩
  subst σz
  refine zCl.use (c_X9_atFrame x1 (f_X9_frames x1 (u_X9_enter_1 x1 x2 N σ)) 0 (u_X9_enter_1 x1 x2 N σ)) (Nat.le_of_ble_eq_true rfl) ?_
  rintro _ σz ⟨rfl, hz⟩
  subst σz
  refine And.intro hp.2.2.1 ?_
  refine zCl.use (c_X9_atFrame x1 (f_X9_frames x1 (u_X9_enter_1 x1 x2 N σ)) 1 (u_X9_enter_2 x1 x2 N σ)) (Nat.le_of_ble_eq_true rfl) ?_
  rintro _ σz ⟨rfl, hz⟩
  subst σz
  refine And.intro hp.2.2.2.1 ?_
  refine And.intro hp.2.2.2.2.1 ?_
  refine zWp.use ((w_X9_enter N N) x1 x2 (f_X9_frames x1 (u_X9_enter_1 x1 x2 N σ)) 0 (u_X9_enter_3 x1 x2 N σ) hp.2.2.2.2.2) (And.intro rfl (And.intro rfl (And.intro rfl (And.intro rfl (And.intro rfl trivial))))) (fun vy σy hy => ?_)
  rw [s_X9_enter]; exact hy
def u_X9_doStep_1 (x1 : Int32) (x2 : Int32) (x3 : Int32) (x4 : Int32) (σ : zS) : zS := (r_X9_take x1 σ).2
def u_X9_doStep_2 (x1 : Int32) (x2 : Int32) (x3 : Int32) (x4 : Int32) (σ : zS) : zS := (r_X9_take x1 (u_X9_doStep_1 x1 x2 x3 x4 σ)).2
def u_X9_doStep_3 (x1 : Int32) (x2 : Int32) (x3 : Int32) (x4 : Int32) (σ : zS) : zS := zuI (u_X9_doStep_2 x1 x2 x3 x4 σ) 469 (f_X9_atFrame x1 x2 1).toNatClampNeg x4
def u_X9_doStep_4 (x1 : Int32) (x2 : Int32) (x3 : Int32) (x4 : Int32) (σ : zS) : zS := s_X9_put x1 (f_X9_made x3 ((r_X9_take x1 (u_X9_doStep_1 x1 x2 x3 x4 σ)).1) ((r_X9_take x1 σ).1)) (u_X9_doStep_2 x1 x2 x3 x4 σ)
def u_X9_doStep_5 (x1 : Int32) (x2 : Int32) (x3 : Int32) (x4 : Int32) (σ : zS) : zS := (r_X9_take x1 σ).2
def u_X9_doStep_6 (x1 : Int32) (x2 : Int32) (x3 : Int32) (x4 : Int32) (σ : zS) : zS := s_X9_put x1 (-((r_X9_take x1 σ).1)) (u_X9_doStep_5 x1 x2 x3 x4 σ)
def u_X9_doStep_7 (x1 : Int32) (x2 : Int32) (x3 : Int32) (x4 : Int32) (σ : zS) : zS := zuI σ 469 (f_X9_atFrame x1 x2 1).toNatClampNeg x4
def u_X9_doStep_8 (x1 : Int32) (x2 : Int32) (x3 : Int32) (x4 : Int32) (σ : zS) : zS := s_X9_put x1 (σ.1 469 (f_X9_atFrame x1 x2 (2 + x4)).toNatClampNeg) σ
def u_X9_doStep_9 (x1 : Int32) (x2 : Int32) (x3 : Int32) (x4 : Int32) (σ : zS) : zS := s_X9_put x1 x4 σ
def s_X9_doStep (x1 : Int32) (x2 : Int32) (x3 : Int32) (x4 : Int32) (σ : zS) : zS := if x3 = 0 then (u_X9_doStep_9 x1 x2 x3 x4 σ) else (if x3 = 1 then (u_X9_doStep_8 x1 x2 x3 x4 σ) else (if x3 = 12 then (u_X9_doStep_7 x1 x2 x3 x4 σ) else (if x3 = 7 then (u_X9_doStep_6 x1 x2 x3 x4 σ) else (if 6 < x3 then (if (f_X9_holds x3 ((r_X9_take x1 (u_X9_doStep_1 x1 x2 x3 x4 σ)).1) ((r_X9_take x1 σ).1)) = 0 then (u_X9_doStep_3 x1 x2 x3 x4 σ) else (u_X9_doStep_2 x1 x2 x3 x4 σ)) else (u_X9_doStep_4 x1 x2 x3 x4 σ)))))
def p_X9_doStep (x1 : Int32) (x2 : Int32) (x3 : Int32) (x4 : Int32) (σ : zS) : Prop := (¬ x3 = 0 → ((¬ x3 = 1 → ((¬ x3 = 12 → ((¬ x3 = 7 → (p_X9_take x1 σ ∧ (p_X9_take x1 (u_X9_doStep_1 x1 x2 x3 x4 σ) ∧ ((6 < x3 → ((f_X9_holds x3 ((r_X9_take x1 (u_X9_doStep_1 x1 x2 x3 x4 σ)).1) ((r_X9_take x1 σ).1)) = 0 → vp_in (f_X9_atFrame x1 x2 1) 14241)) ∧ (¬ 6 < x3 → (p_X9_made x3 ((r_X9_take x1 (u_X9_doStep_1 x1 x2 x3 x4 σ)).1) ((r_X9_take x1 σ).1) (u_X9_doStep_2 x1 x2 x3 x4 σ) ∧ p_X9_put x1 (f_X9_made x3 ((r_X9_take x1 (u_X9_doStep_1 x1 x2 x3 x4 σ)).1) ((r_X9_take x1 σ).1)) (u_X9_doStep_2 x1 x2 x3 x4 σ))))))) ∧ (x3 = 7 → (p_X9_take x1 σ ∧ p_X9_put x1 (-((r_X9_take x1 σ).1)) (u_X9_doStep_5 x1 x2 x3 x4 σ))))) ∧ (x3 = 12 → vp_in (f_X9_atFrame x1 x2 1) 14241))) ∧ (x3 = 1 → (vp_in (f_X9_atFrame x1 x2 (2 + x4)) 14241 ∧ p_X9_put x1 (σ.1 469 (f_X9_atFrame x1 x2 (2 + x4)).toNatClampNeg) σ)))) ∧ (x3 = 0 → p_X9_put x1 x4 σ)
set_option maxRecDepth 100000 in
set_option maxHeartbeats 1000000 in
theorem c_X9_doStep {nx : Nat} (x1 : Int32) (x2 : Int32) (x3 : Int32) (x4 : Int32) (σ : zS) (hp : p_X9_doStep x1 x2 x3 x4 σ) : zCl 3 zall nx zall nx 227 [.inr (9, 57, 468), .inl x1, .inl x2, .inl x3, .inl x4] σ (fun v σ1 => v = none ∧ σ1 = s_X9_doStep x1 x2 x3 x4 σ) := by
  refine zmeth (cd := kX9_doStep) [] 1000 (Nat.le_of_ble_eq_true rfl) rfl okX9_doStep (Nat.le_refl _) (Nat.le_of_ble_eq_true rfl) ?_
  refine And.intro (fun (h1 : ¬ x3 = 0) => ?_) (fun (h1 : x3 = 0) => ?_)
  · refine And.intro (fun (h2 : ¬ x3 = 1) => ?_) (fun (h2 : x3 = 1) => ?_)
    · refine And.intro (fun (h3 : ¬ x3 = 12) => ?_) (fun (h3 : x3 = 12) => ?_)
      · refine And.intro (fun (h4 : ¬ x3 = 7) => ?_) (fun (h4 : x3 = 7) => ?_)
        · refine zCl.use (c_X9_take x1 σ ((((hp.1 h1).1 h2).1 h3).1 h4).1) (Nat.le_of_ble_eq_true rfl) ?_
          rintro _ σz ⟨rfl, hz⟩
          subst σz
          refine zCl.use (c_X9_take x1 (u_X9_doStep_1 x1 x2 x3 x4 σ) ((((hp.1 h1).1 h2).1 h3).1 h4).2.1) (Nat.le_of_ble_eq_true rfl) ?_
          rintro _ σz ⟨rfl, hz⟩
          subst σz
          refine And.intro (fun (h5 : 6 < x3) => ?_) (fun (h5 : ¬ 6 < x3) => ?_)
          · refine zCl.use (c_X9_holds x3 ((r_X9_take x1 (u_X9_doStep_1 x1 x2 x3 x4 σ)).1) ((r_X9_take x1 σ).1) (u_X9_doStep_2 x1 x2 x3 x4 σ)) (Nat.le_of_ble_eq_true rfl) ?_
            rintro _ σz ⟨rfl, hz⟩
            subst σz
            refine And.intro (fun (h6 : ¬ (f_X9_holds x3 ((r_X9_take x1 (u_X9_doStep_1 x1 x2 x3 x4 σ)).1) ((r_X9_take x1 σ).1)) = 0) => ?_) (fun (h6 : (f_X9_holds x3 ((r_X9_take x1 (u_X9_doStep_1 x1 x2 x3 x4 σ)).1) ((r_X9_take x1 σ).1)) = 0) => ?_)
            · exact And.intro rfl (And.intro rfl ⟨rfl, by rw [s_X9_doStep, if_neg h1, if_neg h2, if_neg h3, if_neg h4, if_pos h5, if_neg h6] <;> rfl⟩)
            · refine zCl.use (c_X9_atFrame x1 x2 1 (u_X9_doStep_2 x1 x2 x3 x4 σ)) (Nat.le_of_ble_eq_true rfl) ?_
              rintro _ σz ⟨rfl, hz⟩
              subst σz
              refine And.intro ((((((hp.1 h1).1 h2).1 h3).1 h4).2.2.1 h5) h6) ?_
              exact And.intro rfl (And.intro rfl ⟨rfl, by rw [s_X9_doStep, if_neg h1, if_neg h2, if_neg h3, if_neg h4, if_pos h5, if_pos h6] <;> rfl⟩)
          · refine zCl.use (c_X9_made x3 ((r_X9_take x1 (u_X9_doStep_1 x1 x2 x3 x4 σ)).1) ((r_X9_take x1 σ).1) (u_X9_doStep_2 x1 x2 x3 x4 σ) (((((hp.1 h1).1 h2).1 h3).1 h4).2.2.2 h5).1) (Nat.le_of_ble_eq_true rfl) ?_
            rintro _ σz ⟨rfl, hz⟩
            subst σz
            refine zCl.use (c_X9_put x1 (f_X9_made x3 ((r_X9_take x1 (u_X9_doStep_1 x1 x2 x3 x4 σ)).1) ((r_X9_take x1 σ).1)) (u_X9_doStep_2 x1 x2 x3 x4 σ) (((((hp.1 h1).1 h2).1 h3).1 h4).2.2.2 h5).2) (Nat.le_of_ble_eq_true rfl) ?_
            rintro _ σz ⟨rfl, hz⟩
            subst σz
            exact And.intro rfl (And.intro rfl ⟨rfl, by rw [s_X9_doStep, if_neg h1, if_neg h2, if_neg h3, if_neg h4, if_neg h5] <;> rfl⟩)
        · refine zCl.use (c_X9_take x1 σ ((((hp.1 h1).1 h2).1 h3).2 h4).1) (Nat.le_of_ble_eq_true rfl) ?_
          rintro _ σz ⟨rfl, hz⟩
          subst σz
          refine zCl.use (c_X9_put x1 (-((r_X9_take x1 σ).1)) (u_X9_doStep_5 x1 x2 x3 x4 σ) ((((hp.1 h1).1 h2).1 h3).2 h4).2) (Nat.le_of_ble_eq_true rfl) ?_
          rintro _ σz ⟨rfl, hz⟩
          subst σz
          exact And.intro rfl (And.intro rfl ⟨rfl, by rw [s_X9_doStep, if_neg h1, if_neg h2, if_neg h3, if_pos h4] <;> rfl⟩)
      · refine zCl.use (c_X9_atFrame x1 x2 1 σ) (Nat.le_of_ble_eq_true rfl) ?_
        rintro _ σz ⟨rfl, hz⟩
        subst σz
        refine And.intro (((hp.1 h1).1 h2).2 h3) ?_
        exact And.intro rfl (And.intro rfl ⟨rfl, by rw [s_X9_doStep, if_neg h1, if_neg h2, if_pos h3] <;> rfl⟩)
    · refine zCl.use (c_X9_atFrame x1 x2 (2 + x4) σ) (Nat.le_of_ble_eq_true rfl) ?_
      rintro _ σz ⟨rfl, hz⟩
      subst σz
      refine And.intro ((hp.1 h1).2 h2).1 ?_
      refine zCl.use (c_X9_put x1 (σ.1 469 (f_X9_atFrame x1 x2 (2 + x4)).toNatClampNeg) σ ((hp.1 h1).2 h2).2) (Nat.le_of_ble_eq_true rfl) ?_
      rintro _ σz ⟨rfl, hz⟩
      subst σz
      exact And.intro rfl (And.intro rfl ⟨rfl, by rw [s_X9_doStep, if_neg h1, if_pos h2] <;> rfl⟩)
  · refine zCl.use (c_X9_put x1 x4 σ (hp.2 h1)) (Nat.le_of_ble_eq_true rfl) ?_
    rintro _ σz ⟨rfl, hz⟩
    subst σz
    exact And.intro rfl (And.intro rfl ⟨rfl, by rw [s_X9_doStep, if_pos h1] <;> rfl⟩)
def u_X9_give_1 (x1 : Int32) (x2 : Int32) (x3 : Int32) (x4 : Int32) (σ : zS) : zS := zuI σ 492 0 x1
def u_X9_give_2 (x1 : Int32) (x2 : Int32) (x3 : Int32) (x4 : Int32) (σ : zS) : zS := zuI (u_X9_give_1 x1 x2 x3 x4 σ) 492 1 x2
def u_X9_give_3 (x1 : Int32) (x2 : Int32) (x3 : Int32) (x4 : Int32) (σ : zS) : zS := zuI (u_X9_give_2 x1 x2 x3 x4 σ) 492 2 x3
def u_X9_give_4 (x1 : Int32) (x2 : Int32) (x3 : Int32) (x4 : Int32) (σ : zS) : zS := zuI (u_X9_give_3 x1 x2 x3 x4 σ) 492 3 x4
def s_X9_give (x1 : Int32) (x2 : Int32) (x3 : Int32) (x4 : Int32) (σ : zS) : zS := (u_X9_give_4 x1 x2 x3 x4 σ)
set_option maxRecDepth 100000 in
set_option maxHeartbeats 1000000 in
theorem c_X9_give {nx : Nat} (x1 : Int32) (x2 : Int32) (x3 : Int32) (x4 : Int32) (σ : zS) : zCl 1 zall nx zall nx 229 [.inr (9, 57, 468), .inl x1, .inl x2, .inl x3, .inl x4] σ (fun v σ1 => v = none ∧ σ1 = s_X9_give x1 x2 x3 x4 σ) := by
  refine zmeth (cd := kX9_give) [] 1000 (Nat.le_of_ble_eq_true rfl) rfl okX9_give (Nat.le_refl _) (Nat.le_of_ble_eq_true rfl) ?_
  refine And.intro (vp_in_iff.mpr (by decide)) ?_
  refine And.intro (vp_in_iff.mpr (by decide)) ?_
  refine And.intro (vp_in_iff.mpr (by decide)) ?_
  refine And.intro (vp_in_iff.mpr (by decide)) ?_
  exact And.intro rfl (And.intro rfl ⟨rfl, by rw [s_X9_give] <;> rfl⟩)
def f_X9_functionOf (x1 : Int32) (σ : zS) : Int32 := σ.1 482 ((4 * (σ.1 468 16)) + x1).toNatClampNeg
def p_X9_functionOf (x1 : Int32) (σ : zS) : Prop := vp_in ((4 * (σ.1 468 16)) + x1) 8
set_option maxRecDepth 100000 in
set_option maxHeartbeats 1000000 in
theorem c_X9_functionOf {nx : Nat} (x1 : Int32) (σ : zS) (hp : p_X9_functionOf x1 σ) : zCl 1 zall nx zall nx 230 [.inr (9, 57, 468), .inl x1] σ (fun v σ1 => v = some (.inl (f_X9_functionOf x1 σ)) ∧ σ1 = σ) := by
  refine zmeth (cd := kX9_functionOf) [] 1000 (Nat.le_of_ble_eq_true rfl) rfl okX9_functionOf (Nat.le_refl _) (Nat.le_of_ble_eq_true rfl) ?_
  refine And.intro hp ?_
  exact And.intro rfl (And.intro rfl ⟨by rw [f_X9_functionOf] <;> rfl, rfl⟩)
def u_X9_giveTask_h0_1 (N : Nat) (v1 : Int32) (v2 : Int32) (σ : zS) : zS := zuI σ 492 (v2).toNatClampNeg (σ.1 483 ((4 * ((4 * (σ.1 468 16)) + v1)) + v2).toNatClampNeg)
def l_X9_giveTask (N : Nat) : Nat → Int32 → Int32 → zS → zS
  | 0, _, _, σ => σ
  | n + 1, v1, v2, σ => if 4 ≤ v2 then σ else (l_X9_giveTask N n v1 (v2 + 1) (u_X9_giveTask_h0_1 N v1 v2 σ))
def q_X9_giveTask (N : Nat) : Nat → Int32 → Int32 → zS → Prop
  | 0, _, _, _ => False
  | n + 1, v1, v2, σ => ¬ 4 ≤ v2 → (vp_in ((4 * ((4 * (σ.1 468 16)) + v1)) + v2) 32 ∧ (vp_in v2 4 ∧ q_X9_giveTask N n v1 (v2 + 1) (u_X9_giveTask_h0_1 N v1 v2 σ)))
set_option maxRecDepth 100000 in
set_option maxHeartbeats 1000000 in
theorem w_X9_giveTask {nx : Nat} (N : Nat) : ∀ n : Nat, (∀ (v1 : Int32) (v2 : Int32) (σ : zS), q_X9_giveTask N n v1 v2 σ → zWp 1 zall nx 231 (fun v σ1 => v = none ∧ σ1 = l_X9_giveTask N n v1 v2 σ) zall nx 2 [some (.inr (9, 57, 468)), some (.inl v1), some (.inl v2)] [] σ) := by
  intro n
  induction n with
  | zero => exact fun _ _ _ h => h.elim
  | succ n ih =>
    intro v1 v2 σ hp
    rw [q_X9_giveTask] at hp
    refine zvc_sound (cd := kX9_giveTask) (cs := [2]) rfl okX9_giveTask 1000 _ _ 2 (zseek kX9_giveTask 2) _ _ _ zseek_sub ?_
    refine And.intro (fun (h1 : 4 ≤ v2) => ?_) (fun (h1 : ¬ 4 ≤ v2) => ?_)
    · exact And.intro rfl (And.intro rfl ⟨rfl, by rw [l_X9_giveTask, if_pos h1] <;> rfl⟩)
    · refine And.intro (hp h1).1 ?_
      refine And.intro (hp h1).2.1 ?_
      refine zWp.use (ih v1 (v2 + 1) (u_X9_giveTask_h0_1 N v1 v2 σ) (hp h1).2.2) (And.intro rfl (And.intro rfl (And.intro rfl trivial))) (fun vy σy hy => ?_)
      rw [l_X9_giveTask, if_neg h1]; exact hy
def s_X9_giveTask (x1 : Int32) (N : Nat) (σ : zS) : zS := l_X9_giveTask N N x1 0 σ
def p_X9_giveTask (x1 : Int32) (N : Nat) (σ : zS) : Prop := q_X9_giveTask N N x1 0 σ
set_option maxRecDepth 100000 in
set_option maxHeartbeats 1000000 in
theorem c_X9_giveTask {nx : Nat} (x1 : Int32) (N : Nat) (σ : zS) (hp : p_X9_giveTask x1 N σ) : zCl 1 zall nx zall nx 231 [.inr (9, 57, 468), .inl x1] σ (fun v σ1 => v = none ∧ σ1 = s_X9_giveTask x1 N σ) := by
  refine zmeth (cd := kX9_giveTask) [2] 1000 (Nat.le_of_ble_eq_true rfl) rfl okX9_giveTask (Nat.le_refl _) (Nat.le_of_ble_eq_true rfl) ?_
  refine zWp.use ((w_X9_giveTask N N) x1 0 σ hp) (And.intro rfl (And.intro rfl (And.intro rfl trivial))) (fun vy σy hy => ?_)
  rw [s_X9_giveTask]; exact hy
def l_X9_callCost (N : Nat) : Nat → Int32 → Int32 → Int32 → Int32 → zS → Int32
  | 0, _, _, _, _, σ => 0
  | n + 1, v1, v2, v3, v4, σ => if v1 ≤ v4 then v3 else (l_X9_callCost N n v1 v2 (f_X9_less v3 (((σ.1 469 8) + (v4 * (σ.1 469 9))) + (σ.1 496 ((v1 - v4) + 1).toNatClampNeg))) (v4 + 1) σ)
def q_X9_callCost (N : Nat) : Nat → Int32 → Int32 → Int32 → Int32 → zS → Prop
  | 0, _, _, _, _, _ => False
  | n + 1, v1, v2, v3, v4, σ => ¬ v1 ≤ v4 → (vp_in ((v1 - v4) + 1) 13 ∧ q_X9_callCost N n v1 v2 (f_X9_less v3 (((σ.1 469 8) + (v4 * (σ.1 469 9))) + (σ.1 496 ((v1 - v4) + 1).toNatClampNeg))) (v4 + 1) σ)
set_option maxRecDepth 100000 in
set_option maxHeartbeats 1000000 in
theorem w_X9_callCost {nx : Nat} (N : Nat) : ∀ n : Nat, (∀ (v1 : Int32) (v2 : Int32) (v3 : Int32) (v4 : Int32) (σ : zS), q_X9_callCost N n v1 v2 v3 v4 σ → zWp 2 zall nx 238 (fun v σ1 => v = some (.inl (l_X9_callCost N n v1 v2 v3 v4 σ)) ∧ σ1 = σ) zall nx 21 [some (.inr (9, 57, 468)), some (.inl v1), some (.inl v2), some (.inl v3), some (.inl v4)] [] σ) := by
  intro n
  induction n with
  | zero => exact fun _ _ _ _ _ h => h.elim
  | succ n ih =>
    intro v1 v2 v3 v4 σ hp
    rw [q_X9_callCost] at hp
    refine zvc_sound (cd := kX9_callCost) (cs := [21]) rfl okX9_callCost 1000 _ _ 21 (zseek kX9_callCost 21) _ _ _ zseek_sub ?_
    refine And.intro (fun (h1 : v1 ≤ v4) => ?_) (fun (h1 : ¬ v1 ≤ v4) => ?_)
    · exact And.intro rfl (And.intro rfl ⟨by rw [l_X9_callCost, if_pos h1] <;> rfl, rfl⟩)
    · refine And.intro (vp_in_iff.mpr (by decide)) ?_
      refine And.intro (vp_in_iff.mpr (by decide)) ?_
      refine And.intro (hp h1).1 ?_
      refine zCl.use (c_X9_less v3 (((σ.1 469 8) + (v4 * (σ.1 469 9))) + (σ.1 496 ((v1 - v4) + 1).toNatClampNeg)) σ) (Nat.le_of_ble_eq_true rfl) ?_
      rintro _ σz ⟨rfl, hz⟩
      subst σz
      refine zWp.use (ih v1 v2 (f_X9_less v3 (((σ.1 469 8) + (v4 * (σ.1 469 9))) + (σ.1 496 ((v1 - v4) + 1).toNatClampNeg))) (v4 + 1) σ (hp h1).2) (And.intro rfl (And.intro rfl (And.intro rfl (And.intro rfl (And.intro rfl trivial))))) (fun vy σy hy => ?_)
      rw [l_X9_callCost, if_neg h1]; exact hy
def f_X9_callCost (x1 : Int32) (x2 : Int32) (N : Nat) (σ : zS) : Int32 := if x2 ≤ x1 then (l_X9_callCost N N x1 x2 536870912 1 σ) else (σ.1 496 (x1 + 1).toNatClampNeg)
def p_X9_callCost (x1 : Int32) (x2 : Int32) (N : Nat) (σ : zS) : Prop := (x2 ≤ x1 → q_X9_callCost N N x1 x2 536870912 1 σ) ∧ (¬ x2 ≤ x1 → vp_in (x1 + 1) 13)
set_option maxRecDepth 100000 in
set_option maxHeartbeats 1000000 in
theorem c_X9_callCost {nx : Nat} (x1 : Int32) (x2 : Int32) (N : Nat) (σ : zS) (hp : p_X9_callCost x1 x2 N σ) : zCl 2 zall nx zall nx 238 [.inr (9, 57, 468), .inl x1, .inl x2] σ (fun v σ1 => v = some (.inl (f_X9_callCost x1 x2 N σ)) ∧ σ1 = σ) := by
  refine zmeth (cd := kX9_callCost) [21] 1000 (Nat.le_of_ble_eq_true rfl) rfl okX9_callCost (Nat.le_refl _) (Nat.le_of_ble_eq_true rfl) ?_
  refine And.intro (fun (h1 : x2 ≤ x1) => ?_) (fun (h1 : ¬ x2 ≤ x1) => ?_)
  · refine zWp.use ((w_X9_callCost N N) x1 x2 536870912 1 σ (hp.1 h1)) (And.intro rfl (And.intro rfl (And.intro rfl (And.intro rfl (And.intro rfl trivial))))) (fun vy σy hy => ?_)
    rw [f_X9_callCost, if_pos h1]; exact hy
  · refine And.intro (hp.2 h1) ?_
    exact And.intro rfl (And.intro rfl ⟨by rw [f_X9_callCost, if_neg h1] <;> rfl, rfl⟩)
def l_X9_returnCost (N : Nat) : Nat → Int32 → Int32 → Int32 → Int32 → Int32 → zS → Int32
  | 0, _, _, _, _, _, σ => 0
  | n + 1, v1, v2, v3, v4, v5, σ => if v2 < v5 then v4 else (if v3 ≤ v5 then v4 else (l_X9_returnCost N n v1 v2 v3 (f_X9_less v4 (((σ.1 469 8) + (v5 * (σ.1 469 9))) + (σ.1 496 (v5).toNatClampNeg))) (v5 + 1) σ))
def q_X9_returnCost (N : Nat) : Nat → Int32 → Int32 → Int32 → Int32 → Int32 → zS → Prop
  | 0, _, _, _, _, _, _ => False
  | n + 1, v1, v2, v3, v4, v5, σ => ¬ v2 < v5 → (¬ v3 ≤ v5 → (vp_in v5 13 ∧ q_X9_returnCost N n v1 v2 v3 (f_X9_less v4 (((σ.1 469 8) + (v5 * (σ.1 469 9))) + (σ.1 496 (v5).toNatClampNeg))) (v5 + 1) σ))
set_option maxRecDepth 100000 in
set_option maxHeartbeats 1000000 in
theorem w_X9_returnCost {nx : Nat} (N : Nat) : ∀ n : Nat, (∀ (v1 : Int32) (v2 : Int32) (v3 : Int32) (v4 : Int32) (v5 : Int32) (σ : zS), q_X9_returnCost N n v1 v2 v3 v4 v5 σ → zWp 2 zall nx 239 (fun v σ1 => v = some (.inl (l_X9_returnCost N n v1 v2 v3 v4 v5 σ)) ∧ σ1 = σ) zall nx 29 [some (.inr (9, 57, 468)), some (.inl v1), some (.inl v2), some (.inl v3), some (.inl v4), some (.inl v5)] [] σ) := by
  intro n
  induction n with
  | zero => exact fun _ _ _ _ _ _ h => h.elim
  | succ n ih =>
    intro v1 v2 v3 v4 v5 σ hp
    rw [q_X9_returnCost] at hp
    refine zvc_sound (cd := kX9_returnCost) (cs := [29]) rfl okX9_returnCost 1000 _ _ 29 (zseek kX9_returnCost 29) _ _ _ zseek_sub ?_
    refine And.intro (fun (h1 : v2 < v5) => ?_) (fun (h1 : ¬ v2 < v5) => ?_)
    · exact And.intro rfl (And.intro rfl ⟨by rw [l_X9_returnCost, if_pos h1] <;> rfl, rfl⟩)
    · refine And.intro (fun (h2 : v3 ≤ v5) => ?_) (fun (h2 : ¬ v3 ≤ v5) => ?_)
      · exact And.intro rfl (And.intro rfl ⟨by rw [l_X9_returnCost, if_neg h1, if_pos h2] <;> rfl, rfl⟩)
      · refine And.intro (vp_in_iff.mpr (by decide)) ?_
        refine And.intro (vp_in_iff.mpr (by decide)) ?_
        refine And.intro ((hp h1) h2).1 ?_
        refine zCl.use (c_X9_less v4 (((σ.1 469 8) + (v5 * (σ.1 469 9))) + (σ.1 496 (v5).toNatClampNeg)) σ) (Nat.le_of_ble_eq_true rfl) ?_
        rintro _ σz ⟨rfl, hz⟩
        subst σz
        refine zWp.use (ih v1 v2 v3 (f_X9_less v4 (((σ.1 469 8) + (v5 * (σ.1 469 9))) + (σ.1 496 (v5).toNatClampNeg))) (v5 + 1) σ ((hp h1) h2).2) (And.intro rfl (And.intro rfl (And.intro rfl (And.intro rfl (And.intro rfl (And.intro rfl trivial)))))) (fun vy σy hy => ?_)
        rw [l_X9_returnCost, if_neg h1, if_neg h2]; exact hy
def f_X9_returnCost (x1 : Int32) (x2 : Int32) (x3 : Int32) (N : Nat) (σ : zS) : Int32 := if x3 = 1 then 0 else (if x1 ≤ 1 then (l_X9_returnCost N N x1 x2 x3 536870912 1 σ) else (σ.1 496 (x1 - 1).toNatClampNeg))
def p_X9_returnCost (x1 : Int32) (x2 : Int32) (x3 : Int32) (N : Nat) (σ : zS) : Prop := ¬ x3 = 1 → ((x1 ≤ 1 → q_X9_returnCost N N x1 x2 x3 536870912 1 σ) ∧ (¬ x1 ≤ 1 → vp_in (x1 - 1) 13))
set_option maxRecDepth 100000 in
set_option maxHeartbeats 1000000 in
theorem c_X9_returnCost {nx : Nat} (x1 : Int32) (x2 : Int32) (x3 : Int32) (N : Nat) (σ : zS) (hp : p_X9_returnCost x1 x2 x3 N σ) : zCl 2 zall nx zall nx 239 [.inr (9, 57, 468), .inl x1, .inl x2, .inl x3] σ (fun v σ1 => v = some (.inl (f_X9_returnCost x1 x2 x3 N σ)) ∧ σ1 = σ) := by
  refine zmeth (cd := kX9_returnCost) [29] 1000 (Nat.le_of_ble_eq_true rfl) rfl okX9_returnCost (Nat.le_refl _) (Nat.le_of_ble_eq_true rfl) ?_
  refine And.intro (fun (h1 : ¬ x3 = 1) => ?_) (fun (h1 : x3 = 1) => ?_)
  · refine And.intro (fun (h2 : x1 ≤ 1) => ?_) (fun (h2 : ¬ x1 ≤ 1) => ?_)
    · refine zWp.use ((w_X9_returnCost N N) x1 x2 x3 536870912 1 σ ((hp h1).1 h2)) (And.intro rfl (And.intro rfl (And.intro rfl (And.intro rfl (And.intro rfl (And.intro rfl trivial)))))) (fun vy σy hy => ?_)
      rw [f_X9_returnCost, if_neg h1, if_pos h2]; exact hy
    · refine And.intro ((hp h1).2 h2) ?_
      exact And.intro rfl (And.intro rfl ⟨by rw [f_X9_returnCost, if_neg h1, if_neg h2] <;> rfl, rfl⟩)
  · exact And.intro rfl (And.intro rfl ⟨by rw [f_X9_returnCost, if_pos h1] <;> rfl, rfl⟩)
