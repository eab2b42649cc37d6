/-! printed by wip/whole/dec2.py -/
def u_X9_readTask_h0_1 (N : Nat) (v1 : Int32) (v2 : Int32) (v3 : Int32) (v4 : Int32) (σ : zS) : zS := s_X9_scan N σ
def u_X9_readTask_h0_2 (N : Nat) (v1 : Int32) (v2 : Int32) (v3 : Int32) (v4 : Int32) (σ : zS) : zS := s_X9_fail 4 (u_X9_readTask_h0_1 N v1 v2 v3 v4 σ)
def u_X9_readTask_h0_3 (N : Nat) (v1 : Int32) (v2 : Int32) (v3 : Int32) (v4 : Int32) (σ : zS) : zS := s_X9_fail 1 (u_X9_readTask_h0_1 N v1 v2 v3 v4 σ)
def u_X9_readTask_h0_4 (N : Nat) (v1 : Int32) (v2 : Int32) (v3 : Int32) (v4 : Int32) (σ : zS) : zS := s_X9_fail 4 (u_X9_readTask_h0_1 N v1 v2 v3 v4 σ)
def u_X9_readTask_h0_5 (N : Nat) (v1 : Int32) (v2 : Int32) (v3 : Int32) (v4 : Int32) (σ : zS) : zS := s_X9_fail 1 (u_X9_readTask_h0_1 N v1 v2 v3 v4 σ)
def u_X9_readTask_h1_1 (N : Nat) (v1 : Int32) (v2 : Int32) (v3 : Int32) (v4 : Int32) (σ : zS) : zS := zuI σ 482 ((4 * v1) + (σ.1 477 (v1).toNatClampNeg)).toNatClampNeg v2
def u_X9_readTask_h2_1 (N : Nat) (v1 : Int32) (v2 : Int32) (v3 : Int32) (v4 : Int32) (σ : zS) : zS := s_X9_scan N σ
def u_X9_readTask_h2_2 (N : Nat) (v1 : Int32) (v2 : Int32) (v3 : Int32) (v4 : Int32) (σ : zS) : zS := zuI σ 483 ((4 * v3) + v4).toNatClampNeg 0
def u_X9_readTask_h4_1 (N : Nat) (v1 : Int32) (v2 : Int32) (v3 : Int32) (v4 : Int32) (σ : zS) : zS := s_X9_readGiven (((4 * v3) + (v4 + 1)) - 1) 0 N σ
def u_X9_readTask_h4_2 (N : Nat) (v1 : Int32) (v2 : Int32) (v3 : Int32) (v4 : Int32) (σ : zS) : zS := s_X9_readGiven (((4 * v3) + (v4 + 1)) - 1) 1 N σ
def u_X9_readTask_h5_1 (N : Nat) (v1 : Int32) (v2 : Int32) (v3 : Int32) (v4 : Int32) (σ : zS) : zS := s_X9_fail 5 σ
def u_X9_readTask_h6_1 (N : Nat) (v1 : Int32) (v2 : Int32) (v3 : Int32) (v4 : Int32) (σ : zS) : zS := zuI σ 477 (v1).toNatClampNeg ((σ.1 477 (v1).toNatClampNeg) + 1)
def l_X9_readTask (N : Nat) : Nat → Nat → Int32 → Int32 → Int32 → Int32 → zS → zS
  | 0, _, _, _, _, _, σ => σ
  | n + 1, 0, v1, v2, v3, v4, σ => if (σ.1 468 25) ≤ 0 then (if (f_X9_isName (u_X9_readTask_h0_1 N v1 v2 v3 v4 σ)) = 0 then (if (f_X9_isName (u_X9_readTask_h0_1 N v1 v2 v3 v4 σ)) = 0 then (l_X9_readTask N n 1 v1 (-1) 0 0 (u_X9_readTask_h0_3 N v1 v2 v3 v4 σ)) else (l_X9_readTask N n 1 v1 (-1) 0 0 (u_X9_readTask_h0_2 N v1 v2 v3 v4 σ))) else (if (f_X9_isName (u_X9_readTask_h0_1 N v1 v2 v3 v4 σ)) = 0 then (l_X9_readTask N n 1 v1 (f_X9_functionHere ((u_X9_readTask_h0_1 N v1 v2 v3 v4 σ).1 476 (v1).toNatClampNeg) N (u_X9_readTask_h0_1 N v1 v2 v3 v4 σ)) 0 0 (u_X9_readTask_h0_5 N v1 v2 v3 v4 σ)) else (if 0 ≤ (f_X9_functionHere ((u_X9_readTask_h0_1 N v1 v2 v3 v4 σ).1 476 (v1).toNatClampNeg) N (u_X9_readTask_h0_1 N v1 v2 v3 v4 σ)) then (l_X9_readTask N n 1 v1 (f_X9_functionHere ((u_X9_readTask_h0_1 N v1 v2 v3 v4 σ).1 476 (v1).toNatClampNeg) N (u_X9_readTask_h0_1 N v1 v2 v3 v4 σ)) 0 0 (u_X9_readTask_h0_1 N v1 v2 v3 v4 σ)) else (l_X9_readTask N n 1 v1 (f_X9_functionHere ((u_X9_readTask_h0_1 N v1 v2 v3 v4 σ).1 476 (v1).toNatClampNeg) N (u_X9_readTask_h0_1 N v1 v2 v3 v4 σ)) 0 0 (u_X9_readTask_h0_4 N v1 v2 v3 v4 σ))))) else σ
  | n + 1, 1, v1, v2, v3, v4, σ => if (σ.1 468 25) ≤ 0 then (l_X9_readTask N n 2 v1 v2 ((4 * v1) + (σ.1 477 (v1).toNatClampNeg)) 0 (u_X9_readTask_h1_1 N v1 v2 v3 v4 σ)) else σ
  | n + 1, 2, v1, v2, v3, v4, σ => if 4 ≤ v4 then (l_X9_readTask N n 3 v1 v2 v3 0 (u_X9_readTask_h2_1 N v1 v2 v3 v4 σ)) else (l_X9_readTask N n 2 v1 v2 v3 (v4 + 1) (u_X9_readTask_h2_2 N v1 v2 v3 v4 σ))
  | n + 1, 3, v1, v2, v3, v4, σ => if (σ.1 468 25) = 0 then (if (σ.1 468 22) = 3 then (l_X9_readTask N n 4 v1 v2 v3 v4 σ) else (if (f_X9_isAt 45 σ) = 0 then (l_X9_readTask N n 5 v1 v2 v3 v4 σ) else (l_X9_readTask N n 4 v1 v2 v3 v4 σ))) else (l_X9_readTask N n 5 v1 v2 v3 v4 σ)
  | n + 1, 4, v1, v2, v3, v4, σ => if (v4 + 1) ≤ (σ.1 481 ((6 * v1) + v2).toNatClampNeg) then (l_X9_readTask N n 3 v1 v2 v3 (v4 + 1) (u_X9_readTask_h4_1 N v1 v2 v3 v4 σ)) else (l_X9_readTask N n 3 v1 v2 v3 (v4 + 1) (u_X9_readTask_h4_2 N v1 v2 v3 v4 σ))
  | n + 1, 5, v1, v2, v3, v4, σ => if (f_X9_isAt 59 σ) = 0 then (l_X9_readTask N n 6 v1 v2 v3 v4 σ) else (if (σ.1 481 ((6 * v1) + v2).toNatClampNeg) ≤ v4 then (l_X9_readTask N n 6 v1 v2 v3 v4 σ) else (l_X9_readTask N n 6 v1 v2 v3 v4 (u_X9_readTask_h5_1 N v1 v2 v3 v4 σ)))
  | n + 1, 6, v1, v2, v3, v4, σ => if (σ.1 468 25) = 0 then (u_X9_readTask_h6_1 N v1 v2 v3 v4 σ) else σ
  | _ + 1, _, _, _, _, _, σ => σ
def q_X9_readTask (N : Nat) : Nat → Nat → Int32 → Int32 → Int32 → Int32 → zS → Prop
  | 0, _, _, _, _, _, _ => False
  | n + 1, 0, v1, v2, v3, v4, σ => (σ.1 468 25) ≤ 0 → (p_X9_scan N σ ∧ (((f_X9_isName (u_X9_readTask_h0_1 N v1 v2 v3 v4 σ)) = 0 → ((¬ (f_X9_isName (u_X9_readTask_h0_1 N v1 v2 v3 v4 σ)) = 0 → q_X9_readTask N n 1 v1 (-1) 0 0 (u_X9_readTask_h0_2 N v1 v2 v3 v4 σ)) ∧ ((f_X9_isName (u_X9_readTask_h0_1 N v1 v2 v3 v4 σ)) = 0 → q_X9_readTask N n 1 v1 (-1) 0 0 (u_X9_readTask_h0_3 N v1 v2 v3 v4 σ)))) ∧ (¬ (f_X9_isName (u_X9_readTask_h0_1 N v1 v2 v3 v4 σ)) = 0 → (vp_in v1 2 ∧ (p_X9_functionHere ((u_X9_readTask_h0_1 N v1 v2 v3 v4 σ).1 476 (v1).toNatClampNeg) N (u_X9_readTask_h0_1 N v1 v2 v3 v4 σ) ∧ ((¬ (f_X9_isName (u_X9_readTask_h0_1 N v1 v2 v3 v4 σ)) = 0 → ((0 ≤ (f_X9_functionHere ((u_X9_readTask_h0_1 N v1 v2 v3 v4 σ).1 476 (v1).toNatClampNeg) N (u_X9_readTask_h0_1 N v1 v2 v3 v4 σ)) → q_X9_readTask N n 1 v1 (f_X9_functionHere ((u_X9_readTask_h0_1 N v1 v2 v3 v4 σ).1 476 (v1).toNatClampNeg) N (u_X9_readTask_h0_1 N v1 v2 v3 v4 σ)) 0 0 (u_X9_readTask_h0_1 N v1 v2 v3 v4 σ)) ∧ (¬ 0 ≤ (f_X9_functionHere ((u_X9_readTask_h0_1 N v1 v2 v3 v4 σ).1 476 (v1).toNatClampNeg) N (u_X9_readTask_h0_1 N v1 v2 v3 v4 σ)) → q_X9_readTask N n 1 v1 (f_X9_functionHere ((u_X9_readTask_h0_1 N v1 v2 v3 v4 σ).1 476 (v1).toNatClampNeg) N (u_X9_readTask_h0_1 N v1 v2 v3 v4 σ)) 0 0 (u_X9_readTask_h0_4 N v1 v2 v3 v4 σ)))) ∧ ((f_X9_isName (u_X9_readTask_h0_1 N v1 v2 v3 v4 σ)) = 0 → q_X9_readTask N n 1 v1 (f_X9_functionHere ((u_X9_readTask_h0_1 N v1 v2 v3 v4 σ).1 476 (v1).toNatClampNeg) N (u_X9_readTask_h0_1 N v1 v2 v3 v4 σ)) 0 0 (u_X9_readTask_h0_5 N v1 v2 v3 v4 σ))))))))
  | n + 1, 1, v1, v2, v3, v4, σ => (σ.1 468 25) ≤ 0 → (vp_in v1 2 ∧ (vp_in ((4 * v1) + (σ.1 477 (v1).toNatClampNeg)) 8 ∧ q_X9_readTask N n 2 v1 v2 ((4 * v1) + (σ.1 477 (v1).toNatClampNeg)) 0 (u_X9_readTask_h1_1 N v1 v2 v3 v4 σ)))
  | n + 1, 2, v1, v2, v3, v4, σ => (4 ≤ v4 → (p_X9_scan N σ ∧ q_X9_readTask N n 3 v1 v2 v3 0 (u_X9_readTask_h2_1 N v1 v2 v3 v4 σ))) ∧ (¬ 4 ≤ v4 → (vp_in ((4 * v3) + v4) 32 ∧ q_X9_readTask N n 2 v1 v2 v3 (v4 + 1) (u_X9_readTask_h2_2 N v1 v2 v3 v4 σ)))
  | n + 1, 3, v1, v2, v3, v4, σ => (¬ (σ.1 468 25) = 0 → q_X9_readTask N n 5 v1 v2 v3 v4 σ) ∧ ((σ.1 468 25) = 0 → (((σ.1 468 22) = 3 → q_X9_readTask N n 4 v1 v2 v3 v4 σ) ∧ (¬ (σ.1 468 22) = 3 → (p_X9_isAt 45 σ ∧ (((f_X9_isAt 45 σ) = 0 → q_X9_readTask N n 5 v1 v2 v3 v4 σ) ∧ (¬ (f_X9_isAt 45 σ) = 0 → q_X9_readTask N n 4 v1 v2 v3 v4 σ))))))
  | n + 1, 4, v1, v2, v3, v4, σ => vp_in ((6 * v1) + v2) 12 ∧ (((v4 + 1) ≤ (σ.1 481 ((6 * v1) + v2).toNatClampNeg) → (p_X9_readGiven (((4 * v3) + (v4 + 1)) - 1) 0 N σ ∧ q_X9_readTask N n 3 v1 v2 v3 (v4 + 1) (u_X9_readTask_h4_1 N v1 v2 v3 v4 σ))) ∧ (¬ (v4 + 1) ≤ (σ.1 481 ((6 * v1) + v2).toNatClampNeg) → (p_X9_readGiven (((4 * v3) + (v4 + 1)) - 1) 1 N σ ∧ q_X9_readTask N n 3 v1 v2 v3 (v4 + 1) (u_X9_readTask_h4_2 N v1 v2 v3 v4 σ))))
  | n + 1, 5, v1, v2, v3, v4, σ => p_X9_isAt 59 σ ∧ (((f_X9_isAt 59 σ) = 0 → q_X9_readTask N n 6 v1 v2 v3 v4 σ) ∧ (¬ (f_X9_isAt 59 σ) = 0 → (vp_in ((6 * v1) + v2) 12 ∧ (((σ.1 481 ((6 * v1) + v2).toNatClampNeg) ≤ v4 → q_X9_readTask N n 6 v1 v2 v3 v4 σ) ∧ (¬ (σ.1 481 ((6 * v1) + v2).toNatClampNeg) ≤ v4 → q_X9_readTask N n 6 v1 v2 v3 v4 (u_X9_readTask_h5_1 N v1 v2 v3 v4 σ))))))
  | n + 1, 6, v1, v2, v3, v4, σ => (σ.1 468 25) = 0 → vp_in v1 2
  | _ + 1, _, _, _, _, _, _ => False
set_option maxRecDepth 100000 in
set_option maxHeartbeats 1000000 in
theorem w_X9_readTask {nx : Nat} (N : Nat) : ∀ n : Nat, (∀ (v1 : Int32) (v2 : Int32) (v3 : Int32) (v4 : Int32) (σ : zS), q_X9_readTask N n 0 v1 v2 v3 v4 σ → zWp 6 zall nx 181 (fun v σ1 => v = none ∧ σ1 = l_X9_readTask N n 0 v1 v2 v3 v4 σ) zall nx 15 [some (.inr (9, 57, 468)), some (.inl v1), none, none, none] [] σ) ∧ (∀ (v1 : Int32) (v2 : Int32) (v3 : Int32) (v4 : Int32) (σ : zS), q_X9_readTask N n 1 v1 v2 v3 v4 σ → zWp 6 zall nx 181 (fun v σ1 => v = none ∧ σ1 = l_X9_readTask N n 1 v1 v2 v3 v4 σ) zall nx 73 [some (.inr (9, 57, 468)), some (.inl v1), some (.inl v2), none, none] [] σ) ∧ (∀ (v1 : Int32) (v2 : Int32) (v3 : Int32) (v4 : Int32) (σ : zS), q_X9_readTask N n 2 v1 v2 v3 v4 σ → zWp 6 zall nx 181 (fun v σ1 => v = none ∧ σ1 = l_X9_readTask N n 2 v1 v2 v3 v4 σ) zall nx 102 [some (.inr (9, 57, 468)), some (.inl v1), some (.inl v2), some (.inl v3), some (.inl v4)] [] σ) ∧ (∀ (v1 : Int32) (v2 : Int32) (v3 : Int32) (v4 : Int32) (σ : zS), q_X9_readTask N n 3 v1 v2 v3 v4 σ → zWp 6 zall nx 181 (fun v σ1 => v = none ∧ σ1 = l_X9_readTask N n 3 v1 v2 v3 v4 σ) zall nx 133 [some (.inr (9, 57, 468)), some (.inl v1), some (.inl v2), some (.inl v3), some (.inl v4)] [] σ) ∧ (∀ (v1 : Int32) (v2 : Int32) (v3 : Int32) (v4 : Int32) (σ : zS), q_X9_readTask N n 4 v1 v2 v3 v4 σ → zWp 6 zall nx 181 (fun v σ1 => v = none ∧ σ1 = l_X9_readTask N n 4 v1 v2 v3 v4 σ) zall nx 157 [some (.inr (9, 57, 468)), some (.inl v1), some (.inl v2), some (.inl v3), some (.inl v4)] [] σ) ∧ (∀ (v1 : Int32) (v2 : Int32) (v3 : Int32) (v4 : Int32) (σ : zS), q_X9_readTask N n 5 v1 v2 v3 v4 σ → zWp 6 zall nx 181 (fun v σ1 => v = none ∧ σ1 = l_X9_readTask N n 5 v1 v2 v3 v4 σ) zall nx 196 [some (.inr (9, 57, 468)), some (.inl v1), some (.inl v2), some (.inl v3), some (.inl v4)] [] σ) ∧ (∀ (v1 : Int32) (v2 : Int32) (v3 : Int32) (v4 : Int32) (σ : zS), q_X9_readTask N n 6 v1 v2 v3 v4 σ → zWp 6 zall nx 181 (fun v σ1 => v = none ∧ σ1 = l_X9_readTask N n 6 v1 v2 v3 v4 σ) zall nx 226 [some (.inr (9, 57, 468)), some (.inl v1), some (.inl v2), some (.inl v3), some (.inl v4)] [] σ) := by
  intro n
  induction n with
  | zero => exact ⟨fun _ _ _ _ _ h => h.elim, fun _ _ _ _ _ h => h.elim, fun _ _ _ _ _ h => h.elim, fun _ _ _ _ _ h => h.elim, fun _ _ _ _ _ h => h.elim, fun _ _ _ _ _ h => h.elim, fun _ _ _ _ _ h => h.elim⟩
  | succ n ih =>
    refine ⟨?_, ?_, ?_, ?_, ?_, ?_, ?_⟩
    · intro v1 v2 v3 v4 σ hp
      rw [q_X9_readTask] at hp
      refine zvc_sound (cd := kX9_readTask) (cs := [15, 73, 102, 133, 157, 196, 226]) rfl okX9_readTask 1000 _ _ 15 (zseek kX9_readTask 15) _ _ _ zseek_sub ?_
      refine And.intro (fun (h1 : (σ.1 468 25) ≤ 0) => ?_) (fun (h1 : ¬ (σ.1 468 25) ≤ 0) => ?_)
      · refine zCl.use (c_X9_scan N σ (hp h1).1) (Nat.le_of_ble_eq_true rfl) ?_
        rintro _ σz ⟨rfl, hz⟩
        subst σz
        refine zCl.use (c_X9_isName (u_X9_readTask_h0_1 N v1 v2 v3 v4 σ)) (Nat.le_of_ble_eq_true rfl) ?_
        rintro _ σz ⟨rfl, hz⟩
        subst σz
        refine And.intro (fun (h2 : (f_X9_isName (u_X9_readTask_h0_1 N v1 v2 v3 v4 σ)) = 0) => ?_) (fun (h2 : ¬ (f_X9_isName (u_X9_readTask_h0_1 N v1 v2 v3 v4 σ)) = 0) => ?_)
        · refine zCl.use (c_X9_isName (u_X9_readTask_h0_1 N v1 v2 v3 v4 σ)) (Nat.le_of_ble_eq_true rfl) ?_
          rintro _ σz ⟨rfl, hz⟩
          subst σz
          refine And.intro (fun (h3 : ¬ (f_X9_isName (u_X9_readTask_h0_1 N v1 v2 v3 v4 σ)) = 0) => ?_) (fun (h3 : (f_X9_isName (u_X9_readTask_h0_1 N v1 v2 v3 v4 σ)) = 0) => ?_)
          · refine And.intro (fun (z : (0 : Int32) ≤ (-1)) => absurd z (by decide)) (fun _ => ?_)
            refine zCl.use (c_X9_fail 4 (u_X9_readTask_h0_1 N v1 v2 v3 v4 σ)) (Nat.le_of_ble_eq_true rfl) ?_
            rintro _ σz ⟨rfl, hz⟩
            subst σz
            refine zWp.use (ih.2.1 v1 (-1) 0 0 (u_X9_readTask_h0_2 N v1 v2 v3 v4 σ) (((hp h1).2.1 h2).1 h3)) (And.intro rfl (And.intro rfl (And.intro rfl trivial))) (fun vy σy hy => ?_)
            rw [l_X9_readTask, if_pos h1, if_pos h2, if_neg h3]; exact hy
          · refine zCl.use (c_X9_fail 1 (u_X9_readTask_h0_1 N v1 v2 v3 v4 σ)) (Nat.le_of_ble_eq_true rfl) ?_
            rintro _ σz ⟨rfl, hz⟩
            subst σz
            refine zWp.use (ih.2.1 v1 (-1) 0 0 (u_X9_readTask_h0_3 N v1 v2 v3 v4 σ) (((hp h1).2.1 h2).2 h3)) (And.intro rfl (And.intro rfl (And.intro rfl trivial))) (fun vy σy hy => ?_)
            rw [l_X9_readTask, if_pos h1, if_pos h2, if_pos h3]; exact hy
        · refine And.intro ((hp h1).2.2 h2).1 ?_
          refine zCl.use (c_X9_functionHere ((u_X9_readTask_h0_1 N v1 v2 v3 v4 σ).1 476 (v1).toNatClampNeg) N (u_X9_readTask_h0_1 N v1 v2 v3 v4 σ) ((hp h1).2.2 h2).2.1) (Nat.le_of_ble_eq_true rfl) ?_
          rintro _ σz ⟨rfl, hz⟩
          subst σz
          refine zCl.use (c_X9_isName (u_X9_readTask_h0_1 N v1 v2 v3 v4 σ)) (Nat.le_of_ble_eq_true rfl) ?_
          rintro _ σz ⟨rfl, hz⟩
          subst σz
          refine And.intro (fun (h4 : ¬ (f_X9_isName (u_X9_readTask_h0_1 N v1 v2 v3 v4 σ)) = 0) => ?_) (fun (h4 : (f_X9_isName (u_X9_readTask_h0_1 N v1 v2 v3 v4 σ)) = 0) => ?_)
          · refine And.intro (fun (h5 : 0 ≤ (f_X9_functionHere ((u_X9_readTask_h0_1 N v1 v2 v3 v4 σ).1 476 (v1).toNatClampNeg) N (u_X9_readTask_h0_1 N v1 v2 v3 v4 σ))) => ?_) (fun (h5 : ¬ 0 ≤ (f_X9_functionHere ((u_X9_readTask_h0_1 N v1 v2 v3 v4 σ).1 476 (v1).toNatClampNeg) N (u_X9_readTask_h0_1 N v1 v2 v3 v4 σ))) => ?_)
            · refine zWp.use (ih.2.1 v1 (f_X9_functionHere ((u_X9_readTask_h0_1 N v1 v2 v3 v4 σ).1 476 (v1).toNatClampNeg) N (u_X9_readTask_h0_1 N v1 v2 v3 v4 σ)) 0 0 (u_X9_readTask_h0_1 N v1 v2 v3 v4 σ) ((((hp h1).2.2 h2).2.2.1 h4).1 h5)) (And.intro rfl (And.intro rfl (And.intro rfl trivial))) (fun vy σy hy => ?_)
              rw [l_X9_readTask, if_pos h1, if_neg h2, if_neg h4, if_pos h5]; exact hy
            · refine zCl.use (c_X9_fail 4 (u_X9_readTask_h0_1 N v1 v2 v3 v4 σ)) (Nat.le_of_ble_eq_true rfl) ?_
              rintro _ σz ⟨rfl, hz⟩
              subst σz
              refine zWp.use (ih.2.1 v1 (f_X9_functionHere ((u_X9_readTask_h0_1 N v1 v2 v3 v4 σ).1 476 (v1).toNatClampNeg) N (u_X9_readTask_h0_1 N v1 v2 v3 v4 σ)) 0 0 (u_X9_readTask_h0_4 N v1 v2 v3 v4 σ) ((((hp h1).2.2 h2).2.2.1 h4).2 h5)) (And.intro rfl (And.intro rfl (And.intro rfl trivial))) (fun vy σy hy => ?_)
              rw [l_X9_readTask, if_pos h1, if_neg h2, if_neg h4, if_neg h5]; exact hy
          · refine zCl.use (c_X9_fail 1 (u_X9_readTask_h0_1 N v1 v2 v3 v4 σ)) (Nat.le_of_ble_eq_true rfl) ?_
            rintro _ σz ⟨rfl, hz⟩
            subst σz
            refine zWp.use (ih.2.1 v1 (f_X9_functionHere ((u_X9_readTask_h0_1 N v1 v2 v3 v4 σ).1 476 (v1).toNatClampNeg) N (u_X9_readTask_h0_1 N v1 v2 v3 v4 σ)) 0 0 (u_X9_readTask_h0_5 N v1 v2 v3 v4 σ) (((hp h1).2.2 h2).2.2.2 h4)) (And.intro rfl (And.intro rfl (And.intro rfl trivial))) (fun vy σy hy => ?_)
            rw [l_X9_readTask, if_pos h1, if_neg h2, if_pos h4]; exact hy
      · exact And.intro rfl (And.intro rfl ⟨rfl, by rw [l_X9_readTask, if_neg h1] <;> rfl⟩)
    · intro v1 v2 v3 v4 σ hp
      rw [q_X9_readTask] at hp
      refine zvc_sound (cd := kX9_readTask) (cs := [15, 73, 102, 133, 157, 196, 226]) rfl okX9_readTask 1000 _ _ 73 (zseek kX9_readTask 73) _ _ _ zseek_sub ?_
      refine And.intro (fun (h1 : (σ.1 468 25) ≤ 0) => ?_) (fun (h1 : ¬ (σ.1 468 25) ≤ 0) => ?_)
      · refine And.intro (hp h1).1 ?_
        refine And.intro (hp h1).2.1 ?_
        refine zWp.use (ih.2.2.1 v1 v2 ((4 * v1) + (σ.1 477 (v1).toNatClampNeg)) 0 (u_X9_readTask_h1_1 N v1 v2 v3 v4 σ) (hp h1).2.2) (And.intro rfl (And.intro rfl (And.intro rfl (And.intro rfl (And.intro rfl trivial))))) (fun vy σy hy => ?_)
        rw [l_X9_readTask, if_pos h1]; exact hy
      · exact And.intro rfl (And.intro rfl ⟨rfl, by rw [l_X9_readTask, if_neg h1] <;> rfl⟩)
    · intro v1 v2 v3 v4 σ hp
      rw [q_X9_readTask] at hp
      refine zvc_sound (cd := kX9_readTask) (cs := [15, 73, 102, 133, 157, 196, 226]) rfl okX9_readTask 1000 _ _ 102 (zseek kX9_readTask 102) _ _ _ zseek_sub ?_
      refine And.intro (fun (h1 : 4 ≤ v4) => ?_) (fun (h1 : ¬ 4 ≤ v4) => ?_)
      · refine zCl.use (c_X9_scan N σ (hp.1 h1).1) (Nat.le_of_ble_eq_true rfl) ?_
        rintro _ σz ⟨rfl, hz⟩
        subst σz
        refine zWp.use (ih.2.2.2.1 v1 v2 v3 0 (u_X9_readTask_h2_1 N v1 v2 v3 v4 σ) (hp.1 h1).2) (And.intro rfl (And.intro rfl (And.intro rfl (And.intro rfl (And.intro rfl trivial))))) (fun vy σy hy => ?_)
        rw [l_X9_readTask, if_pos h1]; exact hy
      · refine And.intro (hp.2 h1).1 ?_
        refine zWp.use (ih.2.2.1 v1 v2 v3 (v4 + 1) (u_X9_readTask_h2_2 N v1 v2 v3 v4 σ) (hp.2 h1).2) (And.intro rfl (And.intro rfl (And.intro rfl (And.intro rfl (And.intro rfl trivial))))) (fun vy σy hy => ?_)
        rw [l_X9_readTask, if_neg h1]; exact hy
    · intro v1 v2 v3 v4 σ hp
      rw [q_X9_readTask] at hp
      refine zvc_sound (cd := kX9_readTask) (cs := [15, 73, 102, 133, 157, 196, 226]) rfl okX9_readTask 1000 _ _ 133 (zseek kX9_readTask 133) _ _ _ zseek_sub ?_
      refine And.intro (fun (h1 : ¬ (σ.1 468 25) = 0) => ?_) (fun (h1 : (σ.1 468 25) = 0) => ?_)
      · refine zWp.use (ih.2.2.2.2.2.1 v1 v2 v3 v4 σ (hp.1 h1)) (And.intro rfl (And.intro rfl (And.intro rfl (And.intro rfl (And.intro rfl trivial))))) (fun vy σy hy => ?_)
        rw [l_X9_readTask, if_neg h1]; exact hy
      · refine And.intro (fun (h2 : (σ.1 468 22) = 3) => ?_) (fun (h2 : ¬ (σ.1 468 22) = 3) => ?_)
        · refine zWp.use (ih.2.2.2.2.1 v1 v2 v3 v4 σ ((hp.2 h1).1 h2)) (And.intro rfl (And.intro rfl (And.intro rfl (And.intro rfl (And.intro rfl trivial))))) (fun vy σy hy => ?_)
          rw [l_X9_readTask, if_pos h1, if_pos h2]; exact hy
        · refine zCl.use (c_X9_isAt 45 σ ((hp.2 h1).2 h2).1) (Nat.le_of_ble_eq_true rfl) ?_
          rintro _ σz ⟨rfl, hz⟩
          subst σz
          refine And.intro (fun (h3 : (f_X9_isAt 45 σ) = 0) => ?_) (fun (h3 : ¬ (f_X9_isAt 45 σ) = 0) => ?_)
          · refine zWp.use (ih.2.2.2.2.2.1 v1 v2 v3 v4 σ (((hp.2 h1).2 h2).2.1 h3)) (And.intro rfl (And.intro rfl (And.intro rfl (And.intro rfl (And.intro rfl trivial))))) (fun vy σy hy => ?_)
            rw [l_X9_readTask, if_pos h1, if_neg h2, if_pos h3]; exact hy
          · refine zWp.use (ih.2.2.2.2.1 v1 v2 v3 v4 σ (((hp.2 h1).2 h2).2.2 h3)) (And.intro rfl (And.intro rfl (And.intro rfl (And.intro rfl (And.intro rfl trivial))))) (fun vy σy hy => ?_)
            rw [l_X9_readTask, if_pos h1, if_neg h2, if_neg h3]; exact hy
    · intro v1 v2 v3 v4 σ hp
      rw [q_X9_readTask] at hp
      refine zvc_sound (cd := kX9_readTask) (cs := [15, 73, 102, 133, 157, 196, 226]) rfl okX9_readTask 1000 _ _ 157 (zseek kX9_readTask 157) _ _ _ zseek_sub ?_
      refine And.intro hp.1 ?_
      refine And.intro (fun (h1 : (v4 + 1) ≤ (σ.1 481 ((6 * v1) + v2).toNatClampNeg)) => ?_) (fun (h1 : ¬ (v4 + 1) ≤ (σ.1 481 ((6 * v1) + v2).toNatClampNeg)) => ?_)
      · refine zCl.use (c_X9_readGiven (((4 * v3) + (v4 + 1)) - 1) 0 N σ (hp.2.1 h1).1) (Nat.le_of_ble_eq_true rfl) ?_
        rintro _ σz ⟨rfl, hz⟩
        subst σz
        refine zWp.use (ih.2.2.2.1 v1 v2 v3 (v4 + 1) (u_X9_readTask_h4_1 N v1 v2 v3 v4 σ) (hp.2.1 h1).2) (And.intro rfl (And.intro rfl (And.intro rfl (And.intro rfl (And.intro rfl trivial))))) (fun vy σy hy => ?_)
        rw [l_X9_readTask, if_pos h1]; exact hy
      · refine zCl.use (c_X9_readGiven (((4 * v3) + (v4 + 1)) - 1) 1 N σ (hp.2.2 h1).1) (Nat.le_of_ble_eq_true rfl) ?_
        rintro _ σz ⟨rfl, hz⟩
        subst σz
        refine zWp.use (ih.2.2.2.1 v1 v2 v3 (v4 + 1) (u_X9_readTask_h4_2 N v1 v2 v3 v4 σ) (hp.2.2 h1).2) (And.intro rfl (And.intro rfl (And.intro rfl (And.intro rfl (And.intro rfl trivial))))) (fun vy σy hy => ?_)
        rw [l_X9_readTask, if_neg h1]; exact hy
    · intro v1 v2 v3 v4 σ hp
      rw [q_X9_readTask] at hp
      refine zvc_sound (cd := kX9_readTask) (cs := [15, 73, 102, 133, 157, 196, 226]) rfl okX9_readTask 1000 _ _ 196 (zseek kX9_readTask 196) _ _ _ zseek_sub ?_
      refine zCl.use (c_X9_isAt 59 σ hp.1) (Nat.le_of_ble_eq_true rfl) ?_
      rintro _ σz ⟨rfl, hz⟩
      subst σz
      refine And.intro (fun (h1 : (f_X9_isAt 59 σ) = 0) => ?_) (fun (h1 : ¬ (f_X9_isAt 59 σ) = 0) => ?_)
      · refine zWp.use (ih.2.2.2.2.2.2 v1 v2 v3 v4 σ (hp.2.1 h1)) (And.intro rfl (And.intro rfl (And.intro rfl (And.intro rfl (And.intro rfl trivial))))) (fun vy σy hy => ?_)
        rw [l_X9_readTask, if_pos h1]; exact hy
      · refine And.intro (hp.2.2 h1).1 ?_
        refine And.intro (fun (h2 : (σ.1 481 ((6 * v1) + v2).toNatClampNeg) ≤ v4) => ?_) (fun (h2 : ¬ (σ.1 481 ((6 * v1) + v2).toNatClampNeg) ≤ v4) => ?_)
        · refine zWp.use (ih.2.2.2.2.2.2 v1 v2 v3 v4 σ ((hp.2.2 h1).2.1 h2)) (And.intro rfl (And.intro rfl (And.intro rfl (And.intro rfl (And.intro rfl trivial))))) (fun vy σy hy => ?_)
          rw [l_X9_readTask, if_neg h1, if_pos h2]; exact hy
        · refine zCl.use (c_X9_fail 5 σ) (Nat.le_of_ble_eq_true rfl) ?_
          rintro _ σz ⟨rfl, hz⟩
          subst σz
          refine zWp.use (ih.2.2.2.2.2.2 v1 v2 v3 v4 (u_X9_readTask_h5_1 N v1 v2 v3 v4 σ) ((hp.2.2 h1).2.2 h2)) (And.intro rfl (And.intro rfl (And.intro rfl (And.intro rfl (And.intro rfl trivial))))) (fun vy σy hy => ?_)
          rw [l_X9_readTask, if_neg h1, if_neg h2]; exact hy
    · intro v1 v2 v3 v4 σ hp
      rw [q_X9_readTask] at hp
      refine zvc_sound (cd := kX9_readTask) (cs := [15, 73, 102, 133, 157, 196, 226]) rfl okX9_readTask 1000 _ _ 226 (zseek kX9_readTask 226) _ _ _ zseek_sub ?_
      refine And.intro (fun (h1 : ¬ (σ.1 468 25) = 0) => ?_) (fun (h1 : (σ.1 468 25) = 0) => ?_)
      · exact And.intro rfl (And.intro rfl ⟨rfl, by rw [l_X9_readTask, if_neg h1] <;> rfl⟩)
      · refine And.intro (hp h1) ?_
        refine And.intro (hp h1) ?_
        exact And.intro rfl (And.intro rfl ⟨rfl, by rw [l_X9_readTask, if_pos h1] <;> rfl⟩)
def u_X9_readTask_1 (x1 : Int32) (N : Nat) (σ : zS) : zS := s_X9_fail 5 σ
def s_X9_readTask (x1 : Int32) (N : Nat) (σ : zS) : zS := if (σ.1 477 (x1).toNatClampNeg) = 4 then (l_X9_readTask N N 0 x1 0 0 0 (u_X9_readTask_1 x1 N σ)) else (l_X9_readTask N N 0 x1 0 0 0 σ)
def p_X9_readTask (x1 : Int32) (N : Nat) (σ : zS) : Prop := vp_in x1 2 ∧ ((¬ (σ.1 477 (x1).toNatClampNeg) = 4 → q_X9_readTask N N 0 x1 0 0 0 σ) ∧ ((σ.1 477 (x1).toNatClampNeg) = 4 → q_X9_readTask N N 0 x1 0 0 0 (u_X9_readTask_1 x1 N σ)))
set_option maxRecDepth 100000 in
set_option maxHeartbeats 1000000 in
theorem c_X9_readTask {nx : Nat} (x1 : Int32) (N : Nat) (σ : zS) (hp : p_X9_readTask x1 N σ) : zCl 6 zall nx zall nx 181 [.inr (9, 57, 468), .inl x1] σ (fun v σ1 => v = none ∧ σ1 = s_X9_readTask x1 N σ) := by
  refine zmeth (cd := kX9_readTask) [15, 73, 102, 133, 157, 196, 226] 1000 (Nat.le_of_ble_eq_true rfl) rfl okX9_readTask (Nat.le_refl _) (Nat.le_of_ble_eq_true rfl) ?_
  refine And.intro hp.1 ?_
  refine And.intro (fun (h1 : ¬ (σ.1 477 (x1).toNatClampNeg) = 4) => ?_) (fun (h1 : (σ.1 477 (x1).toNatClampNeg) = 4) => ?_)
  · refine zWp.use ((w_X9_readTask N N).1 x1 0 0 0 σ (hp.2.1 h1)) (And.intro rfl (And.intro rfl trivial)) (fun vy σy hy => ?_)
    rw [s_X9_readTask, if_neg h1]; exact hy
  · refine zCl.use (c_X9_fail 5 σ) (Nat.le_of_ble_eq_true rfl) ?_
    rintro _ σz ⟨rfl, hz⟩
    subst σz
    refine zWp.use ((w_X9_readTask N N).1 x1 0 0 0 (u_X9_readTask_1 x1 N σ) (hp.2.2 h1)) (And.intro rfl (And.intro rfl trivial)) (fun vy σy hy => ?_)
    rw [s_X9_readTask, if_pos h1]; exact hy
def u_X9_endCall_1 (x1 : Int32) (N : Nat) (σ : zS) : zS := s_X9_fail 5 σ
def u_X9_endCall_2 (x1 : Int32) (N : Nat) (σ : zS) : zS := s_X9_lay x1 8 (σ.1 490 ((σ.1 468 37) - 1).toNatClampNeg) (u_X9_endCall_1 x1 N σ)
def u_X9_endCall_3 (x1 : Int32) (N : Nat) (σ : zS) : zS := s_X9_close x1 N (u_X9_endCall_2 x1 N σ)
def u_X9_endCall_4 (x1 : Int32) (N : Nat) (σ : zS) : zS := s_X9_lay x1 8 (σ.1 490 ((σ.1 468 37) - 1).toNatClampNeg) σ
def u_X9_endCall_5 (x1 : Int32) (N : Nat) (σ : zS) : zS := s_X9_close x1 N (u_X9_endCall_4 x1 N σ)
def u_X9_endCall_6 (x1 : Int32) (N : Nat) (σ : zS) : zS := s_X9_fail 5 σ
def u_X9_endCall_7 (x1 : Int32) (N : Nat) (σ : zS) : zS := s_X9_lay x1 8 (σ.1 490 ((σ.1 468 37) - 1).toNatClampNeg) (u_X9_endCall_6 x1 N σ)
def u_X9_endCall_8 (x1 : Int32) (N : Nat) (σ : zS) : zS := s_X9_close x1 N (u_X9_endCall_7 x1 N σ)
def u_X9_endCall_9 (x1 : Int32) (N : Nat) (σ : zS) : zS := s_X9_lay x1 8 (σ.1 490 ((σ.1 468 37) - 1).toNatClampNeg) σ
def u_X9_endCall_10 (x1 : Int32) (N : Nat) (σ : zS) : zS := s_X9_close x1 N (u_X9_endCall_9 x1 N σ)
def u_X9_endCall_11 (x1 : Int32) (N : Nat) (σ : zS) : zS := s_X9_fail 5 σ
def u_X9_endCall_12 (x1 : Int32) (N : Nat) (σ : zS) : zS := s_X9_lay x1 8 (σ.1 490 ((σ.1 468 37) - 1).toNatClampNeg) (u_X9_endCall_11 x1 N σ)
def u_X9_endCall_13 (x1 : Int32) (N : Nat) (σ : zS) : zS := s_X9_close x1 N (u_X9_endCall_12 x1 N σ)
def u_X9_endCall_14 (x1 : Int32) (N : Nat) (σ : zS) : zS := s_X9_lay x1 8 (σ.1 490 ((σ.1 468 37) - 1).toNatClampNeg) σ
def u_X9_endCall_15 (x1 : Int32) (N : Nat) (σ : zS) : zS := s_X9_close x1 N (u_X9_endCall_14 x1 N σ)
def u_X9_endCall_16 (x1 : Int32) (N : Nat) (σ : zS) : zS := s_X9_fail 5 σ
def u_X9_endCall_17 (x1 : Int32) (N : Nat) (σ : zS) : zS := s_X9_lay x1 8 (σ.1 490 ((σ.1 468 37) - 1).toNatClampNeg) (u_X9_endCall_16 x1 N σ)
def u_X9_endCall_18 (x1 : Int32) (N : Nat) (σ : zS) : zS := s_X9_close x1 N (u_X9_endCall_17 x1 N σ)
def u_X9_endCall_19 (x1 : Int32) (N : Nat) (σ : zS) : zS := s_X9_lay x1 8 (σ.1 490 ((σ.1 468 37) - 1).toNatClampNeg) σ
def u_X9_endCall_20 (x1 : Int32) (N : Nat) (σ : zS) : zS := s_X9_close x1 N (u_X9_endCall_19 x1 N σ)
def s_X9_endCall (x1 : Int32) (N : Nat) (σ : zS) : zS := if (σ.1 468 39) = 2 then (if ((σ.1 491 ((σ.1 468 37) - 1).toNatClampNeg) + 1) = (σ.1 481 ((6 * x1) + (σ.1 490 ((σ.1 468 37) - 1).toNatClampNeg)).toNatClampNeg) then (if (σ.1 468 39) = 2 then (if (σ.1 468 25) ≤ 0 then (u_X9_endCall_15 x1 N σ) else σ) else (if (σ.1 491 ((σ.1 468 37) - 1).toNatClampNeg) = 0 then (if (σ.1 468 25) ≤ 0 then (u_X9_endCall_20 x1 N σ) else σ) else (if ((u_X9_endCall_16 x1 N σ).1 468 25) ≤ 0 then (u_X9_endCall_18 x1 N σ) else (u_X9_endCall_16 x1 N σ)))) else (if ((u_X9_endCall_11 x1 N σ).1 468 25) ≤ 0 then (u_X9_endCall_13 x1 N σ) else (u_X9_endCall_11 x1 N σ))) else (if ((σ.1 491 ((σ.1 468 37) - 1).toNatClampNeg) + 0) = (σ.1 481 ((6 * x1) + (σ.1 490 ((σ.1 468 37) - 1).toNatClampNeg)).toNatClampNeg) then (if (σ.1 468 39) = 2 then (if (σ.1 468 25) ≤ 0 then (u_X9_endCall_5 x1 N σ) else σ) else (if (σ.1 491 ((σ.1 468 37) - 1).toNatClampNeg) = 0 then (if (σ.1 468 25) ≤ 0 then (u_X9_endCall_10 x1 N σ) else σ) else (if ((u_X9_endCall_6 x1 N σ).1 468 25) ≤ 0 then (u_X9_endCall_8 x1 N σ) else (u_X9_endCall_6 x1 N σ)))) else (if ((u_X9_endCall_1 x1 N σ).1 468 25) ≤ 0 then (u_X9_endCall_3 x1 N σ) else (u_X9_endCall_1 x1 N σ)))
def p_X9_endCall (x1 : Int32) (N : Nat) (σ : zS) : Prop := vp_in ((σ.1 468 37) - 1) 200 ∧ ((¬ (σ.1 468 39) = 2 → (vp_in ((6 * x1) + (σ.1 490 ((σ.1 468 37) - 1).toNatClampNeg)) 12 ∧ ((¬ ((σ.1 491 ((σ.1 468 37) - 1).toNatClampNeg) + 0) = (σ.1 481 ((6 * x1) + (σ.1 490 ((σ.1 468 37) - 1).toNatClampNeg)).toNatClampNeg) → (((u_X9_endCall_1 x1 N σ).1 468 25) ≤ 0 → (p_X9_lay x1 8 (σ.1 490 ((σ.1 468 37) - 1).toNatClampNeg) (u_X9_endCall_1 x1 N σ) ∧ p_X9_close x1 N (u_X9_endCall_2 x1 N σ)))) ∧ (((σ.1 491 ((σ.1 468 37) - 1).toNatClampNeg) + 0) = (σ.1 481 ((6 * x1) + (σ.1 490 ((σ.1 468 37) - 1).toNatClampNeg)).toNatClampNeg) → (((σ.1 468 39) = 2 → ((σ.1 468 25) ≤ 0 → (p_X9_lay x1 8 (σ.1 490 ((σ.1 468 37) - 1).toNatClampNeg) σ ∧ p_X9_close x1 N (u_X9_endCall_4 x1 N σ)))) ∧ (¬ (σ.1 468 39) = 2 → ((¬ (σ.1 491 ((σ.1 468 37) - 1).toNatClampNeg) = 0 → (((u_X9_endCall_6 x1 N σ).1 468 25) ≤ 0 → (p_X9_lay x1 8 (σ.1 490 ((σ.1 468 37) - 1).toNatClampNeg) (u_X9_endCall_6 x1 N σ) ∧ p_X9_close x1 N (u_X9_endCall_7 x1 N σ)))) ∧ ((σ.1 491 ((σ.1 468 37) - 1).toNatClampNeg) = 0 → ((σ.1 468 25) ≤ 0 → (p_X9_lay x1 8 (σ.1 490 ((σ.1 468 37) - 1).toNatClampNeg) σ ∧ p_X9_close x1 N (u_X9_endCall_9 x1 N σ))))))))))) ∧ ((σ.1 468 39) = 2 → (vp_in ((6 * x1) + (σ.1 490 ((σ.1 468 37) - 1).toNatClampNeg)) 12 ∧ ((¬ ((σ.1 491 ((σ.1 468 37) - 1).toNatClampNeg) + 1) = (σ.1 481 ((6 * x1) + (σ.1 490 ((σ.1 468 37) - 1).toNatClampNeg)).toNatClampNeg) → (((u_X9_endCall_11 x1 N σ).1 468 25) ≤ 0 → (p_X9_lay x1 8 (σ.1 490 ((σ.1 468 37) - 1).toNatClampNeg) (u_X9_endCall_11 x1 N σ) ∧ p_X9_close x1 N (u_X9_endCall_12 x1 N σ)))) ∧ (((σ.1 491 ((σ.1 468 37) - 1).toNatClampNeg) + 1) = (σ.1 481 ((6 * x1) + (σ.1 490 ((σ.1 468 37) - 1).toNatClampNeg)).toNatClampNeg) → (((σ.1 468 39) = 2 → ((σ.1 468 25) ≤ 0 → (p_X9_lay x1 8 (σ.1 490 ((σ.1 468 37) - 1).toNatClampNeg) σ ∧ p_X9_close x1 N (u_X9_endCall_14 x1 N σ)))) ∧ (¬ (σ.1 468 39) = 2 → ((¬ (σ.1 491 ((σ.1 468 37) - 1).toNatClampNeg) = 0 → (((u_X9_endCall_16 x1 N σ).1 468 25) ≤ 0 → (p_X9_lay x1 8 (σ.1 490 ((σ.1 468 37) - 1).toNatClampNeg) (u_X9_endCall_16 x1 N σ) ∧ p_X9_close x1 N (u_X9_endCall_17 x1 N σ)))) ∧ ((σ.1 491 ((σ.1 468 37) - 1).toNatClampNeg) = 0 → ((σ.1 468 25) ≤ 0 → (p_X9_lay x1 8 (σ.1 490 ((σ.1 468 37) - 1).toNatClampNeg) σ ∧ p_X9_close x1 N (u_X9_endCall_19 x1 N σ))))))))))))
set_option maxRecDepth 100000 in
set_option maxHeartbeats 1000000 in
theorem c_X9_endCall {nx : Nat} (x1 : Int32) (N : Nat) (σ : zS) (hp : p_X9_endCall x1 N σ) : zCl 5 zall nx zall nx 195 [.inr (9, 57, 468), .inl x1] σ (fun v σ1 => v = none ∧ σ1 = s_X9_endCall x1 N σ) := by
  refine zmeth (cd := kX9_endCall) [] 1000 (Nat.le_of_ble_eq_true rfl) rfl okX9_endCall (Nat.le_refl _) (Nat.le_of_ble_eq_true rfl) ?_
  refine And.intro hp.1 ?_
  refine And.intro hp.1 ?_
  refine And.intro (fun (h1 : ¬ (σ.1 468 39) = 2) => ?_) (fun (h1 : (σ.1 468 39) = 2) => ?_)
  · refine And.intro (hp.2.1 h1).1 ?_
    refine And.intro (fun (h2 : ¬ ((σ.1 491 ((σ.1 468 37) - 1).toNatClampNeg) + 0) = (σ.1 481 ((6 * x1) + (σ.1 490 ((σ.1 468 37) - 1).toNatClampNeg)).toNatClampNeg)) => ?_) (fun (h2 : ((σ.1 491 ((σ.1 468 37) - 1).toNatClampNeg) + 0) = (σ.1 481 ((6 * x1) + (σ.1 490 ((σ.1 468 37) - 1).toNatClampNeg)).toNatClampNeg)) => ?_)
    · refine And.intro (fun (z : ¬ (0 : Int32) = 0) => absurd z (by decide)) (fun _ => ?_)
      refine zCl.use (c_X9_fail 5 σ) (Nat.le_of_ble_eq_true rfl) ?_
      rintro _ σz ⟨rfl, hz⟩
      subst σz
      refine And.intro (fun (h3 : ((u_X9_endCall_1 x1 N σ).1 468 25) ≤ 0) => ?_) (fun (h3 : ¬ ((u_X9_endCall_1 x1 N σ).1 468 25) ≤ 0) => ?_)
      · refine zCl.use (c_X9_lay x1 8 (σ.1 490 ((σ.1 468 37) - 1).toNatClampNeg) (u_X9_endCall_1 x1 N σ) (((hp.2.1 h1).2.1 h2) h3).1) (Nat.le_of_ble_eq_true rfl) ?_
        rintro _ σz ⟨rfl, hz⟩
        subst σz
        refine zCl.use (c_X9_close x1 N (u_X9_endCall_2 x1 N σ) (((hp.2.1 h1).2.1 h2) h3).2) (Nat.le_of_ble_eq_true rfl) ?_
        rintro _ σz ⟨rfl, hz⟩
        subst σz
        exact And.intro rfl (And.intro rfl ⟨rfl, by rw [s_X9_endCall, if_neg h1, if_neg h2, if_pos h3] <;> rfl⟩)
      · exact And.intro rfl (And.intro rfl ⟨rfl, by rw [s_X9_endCall, if_neg h1, if_neg h2, if_neg h3] <;> rfl⟩)
    · refine And.intro (fun (h4 : (σ.1 468 39) = 2) => ?_) (fun (h4 : ¬ (σ.1 468 39) = 2) => ?_)
      · refine And.intro (fun _ => ?_) (fun (z : (1 : Int32) = 0) => absurd z (by decide))
        refine And.intro (fun (h5 : (σ.1 468 25) ≤ 0) => ?_) (fun (h5 : ¬ (σ.1 468 25) ≤ 0) => ?_)
        · refine zCl.use (c_X9_lay x1 8 (σ.1 490 ((σ.1 468 37) - 1).toNatClampNeg) σ ((((hp.2.1 h1).2.2 h2).1 h4) h5).1) (Nat.le_of_ble_eq_true rfl) ?_
          rintro _ σz ⟨rfl, hz⟩
          subst σz
          refine zCl.use (c_X9_close x1 N (u_X9_endCall_4 x1 N σ) ((((hp.2.1 h1).2.2 h2).1 h4) h5).2) (Nat.le_of_ble_eq_true rfl) ?_
          rintro _ σz ⟨rfl, hz⟩
          subst σz
          exact And.intro rfl (And.intro rfl ⟨rfl, by rw [s_X9_endCall, if_neg h1, if_pos h2, if_pos h4, if_pos h5] <;> rfl⟩)
        · exact And.intro rfl (And.intro rfl ⟨rfl, by rw [s_X9_endCall, if_neg h1, if_pos h2, if_pos h4, if_neg h5] <;> rfl⟩)
      · refine And.intro hp.1 ?_
        refine And.intro (fun (h6 : ¬ (σ.1 491 ((σ.1 468 37) - 1).toNatClampNeg) = 0) => ?_) (fun (h6 : (σ.1 491 ((σ.1 468 37) - 1).toNatClampNeg) = 0) => ?_)
        · refine And.intro (fun (z : ¬ (0 : Int32) = 0) => absurd z (by decide)) (fun _ => ?_)
          refine zCl.use (c_X9_fail 5 σ) (Nat.le_of_ble_eq_true rfl) ?_
          rintro _ σz ⟨rfl, hz⟩
          subst σz
          refine And.intro (fun (h7 : ((u_X9_endCall_6 x1 N σ).1 468 25) ≤ 0) => ?_) (fun (h7 : ¬ ((u_X9_endCall_6 x1 N σ).1 468 25) ≤ 0) => ?_)
          · refine zCl.use (c_X9_lay x1 8 (σ.1 490 ((σ.1 468 37) - 1).toNatClampNeg) (u_X9_endCall_6 x1 N σ) (((((hp.2.1 h1).2.2 h2).2 h4).1 h6) h7).1) (Nat.le_of_ble_eq_true rfl) ?_
            rintro _ σz ⟨rfl, hz⟩
            subst σz
            refine zCl.use (c_X9_close x1 N (u_X9_endCall_7 x1 N σ) (((((hp.2.1 h1).2.2 h2).2 h4).1 h6) h7).2) (Nat.le_of_ble_eq_true rfl) ?_
            rintro _ σz ⟨rfl, hz⟩
            subst σz
            exact And.intro rfl (And.intro rfl ⟨rfl, by rw [s_X9_endCall, if_neg h1, if_pos h2, if_neg h4, if_neg h6, if_pos h7] <;> rfl⟩)
          · exact And.intro rfl (And.intro rfl ⟨rfl, by rw [s_X9_endCall, if_neg h1, if_pos h2, if_neg h4, if_neg h6, if_neg h7] <;> rfl⟩)
        · refine And.intro (fun _ => ?_) (fun (z : (1 : Int32) = 0) => absurd z (by decide))
          refine And.intro (fun (h8 : (σ.1 468 25) ≤ 0) => ?_) (fun (h8 : ¬ (σ.1 468 25) ≤ 0) => ?_)
          · refine zCl.use (c_X9_lay x1 8 (σ.1 490 ((σ.1 468 37) - 1).toNatClampNeg) σ (((((hp.2.1 h1).2.2 h2).2 h4).2 h6) h8).1) (Nat.le_of_ble_eq_true rfl) ?_
            rintro _ σz ⟨rfl, hz⟩
            subst σz
            refine zCl.use (c_X9_close x1 N (u_X9_endCall_9 x1 N σ) (((((hp.2.1 h1).2.2 h2).2 h4).2 h6) h8).2) (Nat.le_of_ble_eq_true rfl) ?_
            rintro _ σz ⟨rfl, hz⟩
            subst σz
            exact And.intro rfl (And.intro rfl ⟨rfl, by rw [s_X9_endCall, if_neg h1, if_pos h2, if_neg h4, if_pos h6, if_pos h8] <;> rfl⟩)
          · exact And.intro rfl (And.intro rfl ⟨rfl, by rw [s_X9_endCall, if_neg h1, if_pos h2, if_neg h4, if_pos h6, if_neg h8] <;> rfl⟩)
  · refine And.intro (hp.2.2 h1).1 ?_
    refine And.intro (fun (h9 : ¬ ((σ.1 491 ((σ.1 468 37) - 1).toNatClampNeg) + 1) = (σ.1 481 ((6 * x1) + (σ.1 490 ((σ.1 468 37) - 1).toNatClampNeg)).toNatClampNeg)) => ?_) (fun (h9 : ((σ.1 491 ((σ.1 468 37) - 1).toNatClampNeg) + 1) = (σ.1 481 ((6 * x1) + (σ.1 490 ((σ.1 468 37) - 1).toNatClampNeg)).toNatClampNeg)) => ?_)
    · refine And.intro (fun (z : ¬ (0 : Int32) = 0) => absurd z (by decide)) (fun _ => ?_)
      refine zCl.use (c_X9_fail 5 σ) (Nat.le_of_ble_eq_true rfl) ?_
      rintro _ σz ⟨rfl, hz⟩
      subst σz
      refine And.intro (fun (h10 : ((u_X9_endCall_11 x1 N σ).1 468 25) ≤ 0) => ?_) (fun (h10 : ¬ ((u_X9_endCall_11 x1 N σ).1 468 25) ≤ 0) => ?_)
      · refine zCl.use (c_X9_lay x1 8 (σ.1 490 ((σ.1 468 37) - 1).toNatClampNeg) (u_X9_endCall_11 x1 N σ) (((hp.2.2 h1).2.1 h9) h10).1) (Nat.le_of_ble_eq_true rfl) ?_
        rintro _ σz ⟨rfl, hz⟩
        subst σz
        refine zCl.use (c_X9_close x1 N (u_X9_endCall_12 x1 N σ) (((hp.2.2 h1).2.1 h9) h10).2) (Nat.le_of_ble_eq_true rfl) ?_
        rintro _ σz ⟨rfl, hz⟩
        subst σz
        exact And.intro rfl (And.intro rfl ⟨rfl, by rw [s_X9_endCall, if_pos h1, if_neg h9, if_pos h10] <;> rfl⟩)
      · exact And.intro rfl (And.intro rfl ⟨rfl, by rw [s_X9_endCall, if_pos h1, if_neg h9, if_neg h10] <;> rfl⟩)
    · refine And.intro (fun (h11 : (σ.1 468 39) = 2) => ?_) (fun (h11 : ¬ (σ.1 468 39) = 2) => ?_)
      · refine And.intro (fun _ => ?_) (fun (z : (1 : Int32) = 0) => absurd z (by decide))
        refine And.intro (fun (h12 : (σ.1 468 25) ≤ 0) => ?_) (fun (h12 : ¬ (σ.1 468 25) ≤ 0) => ?_)
        · refine zCl.use (c_X9_lay x1 8 (σ.1 490 ((σ.1 468 37) - 1).toNatClampNeg) σ ((((hp.2.2 h1).2.2 h9).1 h11) h12).1) (Nat.le_of_ble_eq_true rfl) ?_
          rintro _ σz ⟨rfl, hz⟩
          subst σz
          refine zCl.use (c_X9_close x1 N (u_X9_endCall_14 x1 N σ) ((((hp.2.2 h1).2.2 h9).1 h11) h12).2) (Nat.le_of_ble_eq_true rfl) ?_
          rintro _ σz ⟨rfl, hz⟩
          subst σz
          exact And.intro rfl (And.intro rfl ⟨rfl, by rw [s_X9_endCall, if_pos h1, if_pos h9, if_pos h11, if_pos h12] <;> rfl⟩)
        · exact And.intro rfl (And.intro rfl ⟨rfl, by rw [s_X9_endCall, if_pos h1, if_pos h9, if_pos h11, if_neg h12] <;> rfl⟩)
      · refine And.intro hp.1 ?_
        refine And.intro (fun (h13 : ¬ (σ.1 491 ((σ.1 468 37) - 1).toNatClampNeg) = 0) => ?_) (fun (h13 : (σ.1 491 ((σ.1 468 37) - 1).toNatClampNeg) = 0) => ?_)
        · refine And.intro (fun (z : ¬ (0 : Int32) = 0) => absurd z (by decide)) (fun _ => ?_)
          refine zCl.use (c_X9_fail 5 σ) (Nat.le_of_ble_eq_true rfl) ?_
          rintro _ σz ⟨rfl, hz⟩
          subst σz
          refine And.intro (fun (h14 : ((u_X9_endCall_16 x1 N σ).1 468 25) ≤ 0) => ?_) (fun (h14 : ¬ ((u_X9_endCall_16 x1 N σ).1 468 25) ≤ 0) => ?_)
          · refine zCl.use (c_X9_lay x1 8 (σ.1 490 ((σ.1 468 37) - 1).toNatClampNeg) (u_X9_endCall_16 x1 N σ) (((((hp.2.2 h1).2.2 h9).2 h11).1 h13) h14).1) (Nat.le_of_ble_eq_true rfl) ?_
            rintro _ σz ⟨rfl, hz⟩
            subst σz
            refine zCl.use (c_X9_close x1 N (u_X9_endCall_17 x1 N σ) (((((hp.2.2 h1).2.2 h9).2 h11).1 h13) h14).2) (Nat.le_of_ble_eq_true rfl) ?_
            rintro _ σz ⟨rfl, hz⟩
            subst σz
            exact And.intro rfl (And.intro rfl ⟨rfl, by rw [s_X9_endCall, if_pos h1, if_pos h9, if_neg h11, if_neg h13, if_pos h14] <;> rfl⟩)
          · exact And.intro rfl (And.intro rfl ⟨rfl, by rw [s_X9_endCall, if_pos h1, if_pos h9, if_neg h11, if_neg h13, if_neg h14] <;> rfl⟩)
        · refine And.intro (fun _ => ?_) (fun (z : (1 : Int32) = 0) => absurd z (by decide))
          refine And.intro (fun (h15 : (σ.1 468 25) ≤ 0) => ?_) (fun (h15 : ¬ (σ.1 468 25) ≤ 0) => ?_)
          · refine zCl.use (c_X9_lay x1 8 (σ.1 490 ((σ.1 468 37) - 1).toNatClampNeg) σ (((((hp.2.2 h1).2.2 h9).2 h11).2 h13) h15).1) (Nat.le_of_ble_eq_true rfl) ?_
            rintro _ σz ⟨rfl, hz⟩
            subst σz
            refine zCl.use (c_X9_close x1 N (u_X9_endCall_19 x1 N σ) (((((hp.2.2 h1).2.2 h9).2 h11).2 h13) h15).2) (Nat.le_of_ble_eq_true rfl) ?_
            rintro _ σz ⟨rfl, hz⟩
            subst σz
            exact And.intro rfl (And.intro rfl ⟨rfl, by rw [s_X9_endCall, if_pos h1, if_pos h9, if_neg h11, if_pos h13, if_pos h15] <;> rfl⟩)
          · exact And.intro rfl (And.intro rfl ⟨rfl, by rw [s_X9_endCall, if_pos h1, if_pos h9, if_neg h11, if_pos h13, if_neg h15] <;> rfl⟩)
def u_X9_goInCall_1 (x1 : Int32) (N : Nat) (σ : zS) : zS := s_X9_fail 1 σ
def u_X9_goInCall_2 (x1 : Int32) (N : Nat) (σ : zS) : zS := zuI σ 491 ((σ.1 468 37) - 1).toNatClampNeg ((σ.1 491 ((σ.1 468 37) - 1).toNatClampNeg) + 1)
def u_X9_goInCall_3 (x1 : Int32) (N : Nat) (σ : zS) : zS := s_X9_scan N (u_X9_goInCall_2 x1 N σ)
def u_X9_goInCall_4 (x1 : Int32) (N : Nat) (σ : zS) : zS := zuI (u_X9_goInCall_3 x1 N σ) 468 39 0
def u_X9_goInCall_5 (x1 : Int32) (N : Nat) (σ : zS) : zS := s_X9_fail 5 (u_X9_goInCall_2 x1 N σ)
def u_X9_goInCall_6 (x1 : Int32) (N : Nat) (σ : zS) : zS := s_X9_scan N (u_X9_goInCall_5 x1 N σ)
def u_X9_goInCall_7 (x1 : Int32) (N : Nat) (σ : zS) : zS := zuI (u_X9_goInCall_6 x1 N σ) 468 39 0
def u_X9_goInCall_8 (x1 : Int32) (N : Nat) (σ : zS) : zS := s_X9_endCall x1 N σ
def s_X9_goInCall (x1 : Int32) (N : Nat) (σ : zS) : zS := if (f_X9_isAt 41 σ) = 0 then (if (f_X9_isAt 44 σ) = 0 then (u_X9_goInCall_1 x1 N σ) else (if ((u_X9_goInCall_2 x1 N σ).1 491 (((u_X9_goInCall_2 x1 N σ).1 468 37) - 1).toNatClampNeg) < ((u_X9_goInCall_2 x1 N σ).1 481 ((6 * x1) + ((u_X9_goInCall_2 x1 N σ).1 490 (((u_X9_goInCall_2 x1 N σ).1 468 37) - 1).toNatClampNeg)).toNatClampNeg) then (if ((u_X9_goInCall_2 x1 N σ).1 468 25) ≤ 0 then (u_X9_goInCall_4 x1 N σ) else (u_X9_goInCall_2 x1 N σ)) else (if ((u_X9_goInCall_5 x1 N σ).1 468 25) ≤ 0 then (u_X9_goInCall_7 x1 N σ) else (u_X9_goInCall_5 x1 N σ)))) else (u_X9_goInCall_8 x1 N σ)
def p_X9_goInCall (x1 : Int32) (N : Nat) (σ : zS) : Prop := p_X9_isAt 41 σ ∧ (((f_X9_isAt 41 σ) = 0 → (p_X9_isAt 44 σ ∧ (¬ (f_X9_isAt 44 σ) = 0 → (vp_in ((σ.1 468 37) - 1) 200 ∧ (vp_in (((u_X9_goInCall_2 x1 N σ).1 468 37) - 1) 200 ∧ (vp_in ((6 * x1) + ((u_X9_goInCall_2 x1 N σ).1 490 (((u_X9_goInCall_2 x1 N σ).1 468 37) - 1).toNatClampNeg)) 12 ∧ ((((u_X9_goInCall_2 x1 N σ).1 491 (((u_X9_goInCall_2 x1 N σ).1 468 37) - 1).toNatClampNeg) < ((u_X9_goInCall_2 x1 N σ).1 481 ((6 * x1) + ((u_X9_goInCall_2 x1 N σ).1 490 (((u_X9_goInCall_2 x1 N σ).1 468 37) - 1).toNatClampNeg)).toNatClampNeg) → (((u_X9_goInCall_2 x1 N σ).1 468 25) ≤ 0 → p_X9_scan N (u_X9_goInCall_2 x1 N σ))) ∧ (¬ ((u_X9_goInCall_2 x1 N σ).1 491 (((u_X9_goInCall_2 x1 N σ).1 468 37) - 1).toNatClampNeg) < ((u_X9_goInCall_2 x1 N σ).1 481 ((6 * x1) + ((u_X9_goInCall_2 x1 N σ).1 490 (((u_X9_goInCall_2 x1 N σ).1 468 37) - 1).toNatClampNeg)).toNatClampNeg) → (((u_X9_goInCall_5 x1 N σ).1 468 25) ≤ 0 → p_X9_scan N (u_X9_goInCall_5 x1 N σ)))))))))) ∧ (¬ (f_X9_isAt 41 σ) = 0 → p_X9_endCall x1 N σ))
set_option maxRecDepth 100000 in
set_option maxHeartbeats 1000000 in
theorem c_X9_goInCall {nx : Nat} (x1 : Int32) (N : Nat) (σ : zS) (hp : p_X9_goInCall x1 N σ) : zCl 6 zall nx zall nx 203 [.inr (9, 57, 468), .inl x1] σ (fun v σ1 => v = none ∧ σ1 = s_X9_goInCall x1 N σ) := by
  refine zmeth (cd := kX9_goInCall) [] 1000 (Nat.le_of_ble_eq_true rfl) rfl okX9_goInCall (Nat.le_refl _) (Nat.le_of_ble_eq_true rfl) ?_
  refine zCl.use (c_X9_isAt 41 σ hp.1) (Nat.le_of_ble_eq_true rfl) ?_
  rintro _ σz ⟨rfl, hz⟩
  subst σz
  refine And.intro (fun (h1 : (f_X9_isAt 41 σ) = 0) => ?_) (fun (h1 : ¬ (f_X9_isAt 41 σ) = 0) => ?_)
  · refine zCl.use (c_X9_isAt 44 σ (hp.2.1 h1).1) (Nat.le_of_ble_eq_true rfl) ?_
    rintro _ σz ⟨rfl, hz⟩
    subst σz
    refine And.intro (fun (h2 : (f_X9_isAt 44 σ) = 0) => ?_) (fun (h2 : ¬ (f_X9_isAt 44 σ) = 0) => ?_)
    · refine zCl.use (c_X9_fail 1 σ) (Nat.le_of_ble_eq_true rfl) ?_
      rintro _ σz ⟨rfl, hz⟩
      subst σz
      exact And.intro rfl (And.intro rfl ⟨rfl, by rw [s_X9_goInCall, if_pos h1, if_pos h2] <;> rfl⟩)
    · refine And.intro ((hp.2.1 h1).2 h2).1 ?_
      refine And.intro ((hp.2.1 h1).2 h2).1 ?_
      refine And.intro ((hp.2.1 h1).2 h2).2.1 ?_
      refine And.intro ((hp.2.1 h1).2 h2).2.1 ?_
      refine And.intro ((hp.2.1 h1).2 h2).2.2.1 ?_
      refine And.intro (fun (h3 : ((u_X9_goInCall_2 x1 N σ).1 491 (((u_X9_goInCall_2 x1 N σ).1 468 37) - 1).toNatClampNeg) < ((u_X9_goInCall_2 x1 N σ).1 481 ((6 * x1) + ((u_X9_goInCall_2 x1 N σ).1 490 (((u_X9_goInCall_2 x1 N σ).1 468 37) - 1).toNatClampNeg)).toNatClampNeg)) => ?_) (fun (h3 : ¬ ((u_X9_goInCall_2 x1 N σ).1 491 (((u_X9_goInCall_2 x1 N σ).1 468 37) - 1).toNatClampNeg) < ((u_X9_goInCall_2 x1 N σ).1 481 ((6 * x1) + ((u_X9_goInCall_2 x1 N σ).1 490 (((u_X9_goInCall_2 x1 N σ).1 468 37) - 1).toNatClampNeg)).toNatClampNeg)) => ?_)
      · refine And.intro (fun (h4 : ((u_X9_goInCall_2 x1 N σ).1 468 25) ≤ 0) => ?_) (fun (h4 : ¬ ((u_X9_goInCall_2 x1 N σ).1 468 25) ≤ 0) => ?_)
        · refine zCl.use (c_X9_scan N (u_X9_goInCall_2 x1 N σ) ((((hp.2.1 h1).2 h2).2.2.2.1 h3) h4)) (Nat.le_of_ble_eq_true rfl) ?_
          rintro _ σz ⟨rfl, hz⟩
          subst σz
          exact And.intro rfl (And.intro rfl ⟨rfl, by rw [s_X9_goInCall, if_pos h1, if_neg h2, if_pos h3, if_pos h4] <;> rfl⟩)
        · exact And.intro rfl (And.intro rfl ⟨rfl, by rw [s_X9_goInCall, if_pos h1, if_neg h2, if_pos h3, if_neg h4] <;> rfl⟩)
      · refine zCl.use (c_X9_fail 5 (u_X9_goInCall_2 x1 N σ)) (Nat.le_of_ble_eq_true rfl) ?_
        rintro _ σz ⟨rfl, hz⟩
        subst σz
        refine And.intro (fun (h5 : ((u_X9_goInCall_5 x1 N σ).1 468 25) ≤ 0) => ?_) (fun (h5 : ¬ ((u_X9_goInCall_5 x1 N σ).1 468 25) ≤ 0) => ?_)
        · refine zCl.use (c_X9_scan N (u_X9_goInCall_5 x1 N σ) ((((hp.2.1 h1).2 h2).2.2.2.2 h3) h5)) (Nat.le_of_ble_eq_true rfl) ?_
          rintro _ σz ⟨rfl, hz⟩
          subst σz
          exact And.intro rfl (And.intro rfl ⟨rfl, by rw [s_X9_goInCall, if_pos h1, if_neg h2, if_neg h3, if_pos h5] <;> rfl⟩)
        · exact And.intro rfl (And.intro rfl ⟨rfl, by rw [s_X9_goInCall, if_pos h1, if_neg h2, if_neg h3, if_neg h5] <;> rfl⟩)
  · refine zCl.use (c_X9_endCall x1 N σ (hp.2.2 h1)) (Nat.le_of_ble_eq_true rfl) ?_
    rintro _ σz ⟨rfl, hz⟩
    subst σz
    exact And.intro rfl (And.intro rfl ⟨rfl, by rw [s_X9_goInCall, if_neg h1] <;> rfl⟩)
def f_J0_indexOf_0f7a4 (t0 : Nat) (x1 : Int32) (N : Nat) (σ : zS) : Int32 := f_J0_indexOf_7cf53 t0 x1 0 N σ
def p_J0_indexOf_0f7a4 (t0 : Nat) (x1 : Int32) (N : Nat) (σ : zS) : Prop := p_J0_indexOf_7cf53 t0 x1 0 N σ
set_option maxRecDepth 100000 in
set_option maxHeartbeats 1000000 in
theorem c_J0_indexOf_0f7a4 {cp : Nat → Bool} {nx : Nat} (t0 : Nat) (x1 : Int32) (N : Nat) (σ : zS) (hp : p_J0_indexOf_0f7a4 t0 x1 N σ) : zCl 4 cp nx cp nx 301 [.inr (30, t0, (1000010 + t0)), .inl x1] σ (fun v σ1 => v = some (.inl (f_J0_indexOf_0f7a4 t0 x1 N σ)) ∧ σ1 = σ) := by
  refine zmeth (cd := kJ0_indexOf_0f7a4) [] 1000 (Nat.le_of_ble_eq_true rfl) rfl okJ0_indexOf_0f7a4 (Nat.le_refl _) (Nat.le_of_ble_eq_true rfl) ?_
  refine zCl.use (c_J0_indexOf_7cf53 t0 x1 0 N σ hp) (Nat.le_of_ble_eq_true rfl) ?_
  rintro _ σz ⟨rfl, hz⟩
  subst σz
  exact And.intro rfl (And.intro rfl ⟨by rw [f_J0_indexOf_0f7a4] <;> rfl, rfl⟩)
def u_X4_goOn_1 (o : Nat) (q1 : Nat) (x2 : Int32) (N : Nat) (σ : zS) : zS := (r_X0_reach ((f_X4_taskAt o x2 σ) + 1) q1 N σ).2
def u_X4_goOn_2 (o : Nat) (q1 : Nat) (x2 : Int32) (N : Nat) (σ : zS) : zS := (r_X4_fail o x2 (σ.1 (f_X4_taskAt o x2 σ) 3) N (u_X4_goOn_1 o q1 x2 N σ)).2
def u_X4_goOn_3 (o : Nat) (q1 : Nat) (x2 : Int32) (N : Nat) (σ : zS) : zS := (r_X4_enterFrame o q1 x2 (σ.1 (f_X4_taskAt o x2 σ) 3) N (u_X4_goOn_1 o q1 x2 N σ)).2
def u_X4_goOn_4 (o : Nat) (q1 : Nat) (x2 : Int32) (N : Nat) (σ : zS) : zS := (r_X4_leaveFrame o x2 (σ.1 (f_X4_taskAt o x2 σ) 3) N (u_X4_goOn_1 o q1 x2 N σ)).2
def u_X4_goOn_5 (o : Nat) (q1 : Nat) (x2 : Int32) (N : Nat) (σ : zS) : zS := s_X4_comeBack o x2 N σ
def u_X4_goOn_6 (o : Nat) (q1 : Nat) (x2 : Int32) (N : Nat) (σ : zS) : zS := (r_X0_reach ((f_X4_taskAt o x2 σ) + 1) q1 N (u_X4_goOn_5 o q1 x2 N σ)).2
def u_X4_goOn_7 (o : Nat) (q1 : Nat) (x2 : Int32) (N : Nat) (σ : zS) : zS := (r_X4_fail o x2 ((u_X4_goOn_5 o q1 x2 N σ).1 (f_X4_taskAt o x2 σ) 3) N (u_X4_goOn_6 o q1 x2 N σ)).2
def u_X4_goOn_8 (o : Nat) (q1 : Nat) (x2 : Int32) (N : Nat) (σ : zS) : zS := (r_X4_enterFrame o q1 x2 ((u_X4_goOn_5 o q1 x2 N σ).1 (f_X4_taskAt o x2 σ) 3) N (u_X4_goOn_6 o q1 x2 N σ)).2
def u_X4_goOn_9 (o : Nat) (q1 : Nat) (x2 : Int32) (N : Nat) (σ : zS) : zS := (r_X4_leaveFrame o x2 ((u_X4_goOn_5 o q1 x2 N σ).1 (f_X4_taskAt o x2 σ) 3) N (u_X4_goOn_6 o q1 x2 N σ)).2
def r_X4_goOn (o : Nat) (q1 : Nat) (x2 : Int32) (N : Nat) (σ : zS) : Int32 × zS := if (σ.1 (f_X4_taskAt o x2 σ) 2) = 0 then (if ((r_X0_reach ((f_X4_taskAt o x2 σ) + 1) q1 N (u_X4_goOn_5 o q1 x2 N σ)).1) = 13 then ((r_X4_leaveFrame o x2 ((u_X4_goOn_5 o q1 x2 N σ).1 (f_X4_taskAt o x2 σ) 3) N (u_X4_goOn_6 o q1 x2 N σ)).1, (u_X4_goOn_9 o q1 x2 N σ)) else (if 60 ≤ ((u_X4_goOn_6 o q1 x2 N σ).1 ((f_X4_taskAt o x2 σ) + 1) 0) then ((r_X4_fail o x2 ((u_X4_goOn_5 o q1 x2 N σ).1 (f_X4_taskAt o x2 σ) 3) N (u_X4_goOn_6 o q1 x2 N σ)).1, (u_X4_goOn_7 o q1 x2 N σ)) else ((r_X4_enterFrame o q1 x2 ((u_X4_goOn_5 o q1 x2 N σ).1 (f_X4_taskAt o x2 σ) 3) N (u_X4_goOn_6 o q1 x2 N σ)).1, (u_X4_goOn_8 o q1 x2 N σ)))) else (if ((r_X0_reach ((f_X4_taskAt o x2 σ) + 1) q1 N σ).1) = 13 then ((r_X4_leaveFrame o x2 (σ.1 (f_X4_taskAt o x2 σ) 3) N (u_X4_goOn_1 o q1 x2 N σ)).1, (u_X4_goOn_4 o q1 x2 N σ)) else (if 60 ≤ ((u_X4_goOn_1 o q1 x2 N σ).1 ((f_X4_taskAt o x2 σ) + 1) 0) then ((r_X4_fail o x2 (σ.1 (f_X4_taskAt o x2 σ) 3) N (u_X4_goOn_1 o q1 x2 N σ)).1, (u_X4_goOn_2 o q1 x2 N σ)) else ((r_X4_enterFrame o q1 x2 (σ.1 (f_X4_taskAt o x2 σ) 3) N (u_X4_goOn_1 o q1 x2 N σ)).1, (u_X4_goOn_3 o q1 x2 N σ))))
def p_X4_goOn (o : Nat) (q1 : Nat) (x2 : Int32) (N : Nat) (σ : zS) : Prop := p_X4_taskAt o x2 σ ∧ ((¬ (σ.1 (f_X4_taskAt o x2 σ) 2) = 0 → (p_X0_reach ((f_X4_taskAt o x2 σ) + 1) q1 N σ ∧ ((¬ ((r_X0_reach ((f_X4_taskAt o x2 σ) + 1) q1 N σ).1) = 13 → ((60 ≤ ((u_X4_goOn_1 o q1 x2 N σ).1 ((f_X4_taskAt o x2 σ) + 1) 0) → p_X4_fail o x2 (σ.1 (f_X4_taskAt o x2 σ) 3) N (u_X4_goOn_1 o q1 x2 N σ)) ∧ (¬ 60 ≤ ((u_X4_goOn_1 o q1 x2 N σ).1 ((f_X4_taskAt o x2 σ) + 1) 0) → p_X4_enterFrame o q1 x2 (σ.1 (f_X4_taskAt o x2 σ) 3) N (u_X4_goOn_1 o q1 x2 N σ)))) ∧ (((r_X0_reach ((f_X4_taskAt o x2 σ) + 1) q1 N σ).1) = 13 → p_X4_leaveFrame o x2 (σ.1 (f_X4_taskAt o x2 σ) 3) N (u_X4_goOn_1 o q1 x2 N σ))))) ∧ ((σ.1 (f_X4_taskAt o x2 σ) 2) = 0 → (p_X4_comeBack o x2 N σ ∧ (p_X0_reach ((f_X4_taskAt o x2 σ) + 1) q1 N (u_X4_goOn_5 o q1 x2 N σ) ∧ ((¬ ((r_X0_reach ((f_X4_taskAt o x2 σ) + 1) q1 N (u_X4_goOn_5 o q1 x2 N σ)).1) = 13 → ((60 ≤ ((u_X4_goOn_6 o q1 x2 N σ).1 ((f_X4_taskAt o x2 σ) + 1) 0) → p_X4_fail o x2 ((u_X4_goOn_5 o q1 x2 N σ).1 (f_X4_taskAt o x2 σ) 3) N (u_X4_goOn_6 o q1 x2 N σ)) ∧ (¬ 60 ≤ ((u_X4_goOn_6 o q1 x2 N σ).1 ((f_X4_taskAt o x2 σ) + 1) 0) → p_X4_enterFrame o q1 x2 ((u_X4_goOn_5 o q1 x2 N σ).1 (f_X4_taskAt o x2 σ) 3) N (u_X4_goOn_6 o q1 x2 N σ)))) ∧ (((r_X0_reach ((f_X4_taskAt o x2 σ) + 1) q1 N (u_X4_goOn_5 o q1 x2 N σ)).1) = 13 → p_X4_leaveFrame o x2 ((u_X4_goOn_5 o q1 x2 N σ).1 (f_X4_taskAt o x2 σ) 3) N (u_X4_goOn_6 o q1 x2 N σ)))))))
set_option maxRecDepth 100000 in
set_option maxHeartbeats 1000000 in
theorem c_X4_goOn {nx : Nat} (o : Nat) (q1 : Nat) (x2 : Int32) (N : Nat) (σ : zS) (hp : p_X4_goOn o q1 x2 N σ) : zCl 5 zall nx zall nx 71 [.inr (4, 17, o), .inr (2, 16, q1), .inl x2] σ (fun v σ1 => v = some (.inl ((r_X4_goOn o q1 x2 N σ).1)) ∧ σ1 = (r_X4_goOn o q1 x2 N σ).2) := by
  refine zmeth (cd := kX4_goOn) [] 1000 (Nat.le_of_ble_eq_true rfl) rfl okX4_goOn (Nat.le_refl _) (Nat.le_of_ble_eq_true rfl) ?_
  refine zCl.use (c_X4_taskAt o x2 σ hp.1) (Nat.le_of_ble_eq_true rfl) ?_
  rintro _ σz ⟨rfl, hz⟩
  subst σz
  refine And.intro (fun (h1 : ¬ (σ.1 (f_X4_taskAt o x2 σ) 2) = 0) => ?_) (fun (h1 : (σ.1 (f_X4_taskAt o x2 σ) 2) = 0) => ?_)
  · refine zCl.use (c_X0_reach ((f_X4_taskAt o x2 σ) + 1) q1 N σ (hp.2.1 h1).1) (Nat.le_of_ble_eq_true rfl) ?_
    rintro _ σz ⟨rfl, hz⟩
    subst σz
    refine And.intro (fun (h2 : ¬ ((r_X0_reach ((f_X4_taskAt o x2 σ) + 1) q1 N σ).1) = 13) => ?_) (fun (h2 : ((r_X0_reach ((f_X4_taskAt o x2 σ) + 1) q1 N σ).1) = 13) => ?_)
    · refine And.intro (fun (h3 : 60 ≤ ((u_X4_goOn_1 o q1 x2 N σ).1 ((f_X4_taskAt o x2 σ) + 1) 0)) => ?_) (fun (h3 : ¬ 60 ≤ ((u_X4_goOn_1 o q1 x2 N σ).1 ((f_X4_taskAt o x2 σ) + 1) 0)) => ?_)
      · refine zCl.use (c_X4_fail o x2 (σ.1 (f_X4_taskAt o x2 σ) 3) N (u_X4_goOn_1 o q1 x2 N σ) (((hp.2.1 h1).2.1 h2).1 h3)) (Nat.le_of_ble_eq_true rfl) ?_
        rintro _ σz ⟨rfl, hz⟩
        subst σz
        exact And.intro rfl (And.intro rfl ⟨by rw [r_X4_goOn, if_neg h1, if_neg h2, if_pos h3] <;> rfl, by rw [r_X4_goOn, if_neg h1, if_neg h2, if_pos h3] <;> rfl⟩)
      · refine zCl.use (c_X4_enterFrame o q1 x2 (σ.1 (f_X4_taskAt o x2 σ) 3) N (u_X4_goOn_1 o q1 x2 N σ) (((hp.2.1 h1).2.1 h2).2 h3)) (Nat.le_of_ble_eq_true rfl) ?_
        rintro _ σz ⟨rfl, hz⟩
        subst σz
        exact And.intro rfl (And.intro rfl ⟨by rw [r_X4_goOn, if_neg h1, if_neg h2, if_neg h3] <;> rfl, by rw [r_X4_goOn, if_neg h1, if_neg h2, if_neg h3] <;> rfl⟩)
    · refine zCl.use (c_X4_leaveFrame o x2 (σ.1 (f_X4_taskAt o x2 σ) 3) N (u_X4_goOn_1 o q1 x2 N σ) ((hp.2.1 h1).2.2 h2)) (Nat.le_of_ble_eq_true rfl) ?_
      rintro _ σz ⟨rfl, hz⟩
      subst σz
      exact And.intro rfl (And.intro rfl ⟨by rw [r_X4_goOn, if_neg h1, if_pos h2] <;> rfl, by rw [r_X4_goOn, if_neg h1, if_pos h2] <;> rfl⟩)
  · refine zCl.use (c_X4_comeBack o x2 N σ (hp.2.2 h1).1) (Nat.le_of_ble_eq_true rfl) ?_
    rintro _ σz ⟨rfl, hz⟩
    subst σz
    refine zCl.use (c_X0_reach ((f_X4_taskAt o x2 σ) + 1) q1 N (u_X4_goOn_5 o q1 x2 N σ) (hp.2.2 h1).2.1) (Nat.le_of_ble_eq_true rfl) ?_
    rintro _ σz ⟨rfl, hz⟩
    subst σz
    refine And.intro (fun (h4 : ¬ ((r_X0_reach ((f_X4_taskAt o x2 σ) + 1) q1 N (u_X4_goOn_5 o q1 x2 N σ)).1) = 13) => ?_) (fun (h4 : ((r_X0_reach ((f_X4_taskAt o x2 σ) + 1) q1 N (u_X4_goOn_5 o q1 x2 N σ)).1) = 13) => ?_)
    · refine And.intro (fun (h5 : 60 ≤ ((u_X4_goOn_6 o q1 x2 N σ).1 ((f_X4_taskAt o x2 σ) + 1) 0)) => ?_) (fun (h5 : ¬ 60 ≤ ((u_X4_goOn_6 o q1 x2 N σ).1 ((f_X4_taskAt o x2 σ) + 1) 0)) => ?_)
      · refine zCl.use (c_X4_fail o x2 ((u_X4_goOn_5 o q1 x2 N σ).1 (f_X4_taskAt o x2 σ) 3) N (u_X4_goOn_6 o q1 x2 N σ) (((hp.2.2 h1).2.2.1 h4).1 h5)) (Nat.le_of_ble_eq_true rfl) ?_
        rintro _ σz ⟨rfl, hz⟩
        subst σz
        exact And.intro rfl (And.intro rfl ⟨by rw [r_X4_goOn, if_pos h1, if_neg h4, if_pos h5] <;> rfl, by rw [r_X4_goOn, if_pos h1, if_neg h4, if_pos h5] <;> rfl⟩)
      · refine zCl.use (c_X4_enterFrame o q1 x2 ((u_X4_goOn_5 o q1 x2 N σ).1 (f_X4_taskAt o x2 σ) 3) N (u_X4_goOn_6 o q1 x2 N σ) (((hp.2.2 h1).2.2.1 h4).2 h5)) (Nat.le_of_ble_eq_true rfl) ?_
        rintro _ σz ⟨rfl, hz⟩
        subst σz
        exact And.intro rfl (And.intro rfl ⟨by rw [r_X4_goOn, if_pos h1, if_neg h4, if_neg h5] <;> rfl, by rw [r_X4_goOn, if_pos h1, if_neg h4, if_neg h5] <;> rfl⟩)
    · refine zCl.use (c_X4_leaveFrame o x2 ((u_X4_goOn_5 o q1 x2 N σ).1 (f_X4_taskAt o x2 σ) 3) N (u_X4_goOn_6 o q1 x2 N σ) ((hp.2.2 h1).2.2.2 h4)) (Nat.le_of_ble_eq_true rfl) ?_
      rintro _ σz ⟨rfl, hz⟩
      subst σz
      exact And.intro rfl (And.intro rfl ⟨by rw [r_X4_goOn, if_pos h1, if_pos h4] <;> rfl, by rw [r_X4_goOn, if_pos h1, if_pos h4] <;> rfl⟩)
def f_X6_isSign (x1 : Int32) (N : Nat) (σ : zS) : Int32 := if 128 ≤ x1 then 0 else (if (f_J0_indexOf_0f7a4 13 (((x1).toUInt32 % 65536).toInt32) N σ) < 0 then 0 else 1)
def p_X6_isSign (x1 : Int32) (N : Nat) (σ : zS) : Prop := ¬ 128 ≤ x1 → p_J0_indexOf_0f7a4 13 (((x1).toUInt32 % 65536).toInt32) N σ
set_option maxRecDepth 100000 in
set_option maxHeartbeats 1000000 in
theorem c_X6_isSign {cp : Nat → Bool} {nx : Nat} (x1 : Int32) (N : Nat) (σ : zS) (hp : p_X6_isSign x1 N σ) : zCl 5 cp nx cp nx 101 [.inl x1] σ (fun v σ1 => v = some (.inl (f_X6_isSign x1 N σ)) ∧ σ1 = σ) := by
  refine zmeth (cd := kX6_isSign) [] 1000 (Nat.le_of_ble_eq_true rfl) rfl okX6_isSign (Nat.le_refl _) (Nat.le_of_ble_eq_true rfl) ?_
  refine And.intro (fun (h1 : 128 ≤ x1) => ?_) (fun (h1 : ¬ 128 ≤ x1) => ?_)
  · exact And.intro rfl (And.intro rfl (And.intro (Or.inl rfl) ⟨by rw [f_X6_isSign, if_pos h1] <;> rfl, rfl⟩))
  · refine zCl.use (c_J0_indexOf_0f7a4 13 (((x1).toUInt32 % 65536).toInt32) N σ (hp h1)) (Nat.le_of_ble_eq_true rfl) ?_
    rintro _ σz ⟨rfl, hz⟩
    subst σz
    refine And.intro (fun (h2 : (f_J0_indexOf_0f7a4 13 (((x1).toUInt32 % 65536).toInt32) N σ) < 0) => ?_) (fun (h2 : ¬ (f_J0_indexOf_0f7a4 13 (((x1).toUInt32 % 65536).toInt32) N σ) < 0) => ?_)
    · exact And.intro rfl (And.intro rfl (And.intro (Or.inl rfl) ⟨by rw [f_X6_isSign, if_neg h1, if_pos h2] <;> rfl, rfl⟩))
    · exact And.intro rfl (And.intro rfl (And.intro (Or.inr rfl) ⟨by rw [f_X6_isSign, if_neg h1, if_neg h2] <;> rfl, rfl⟩))
theorem b_X6_isSign {x1 : Int32} {N : Nat} {σ : zS} : f_X6_isSign x1 N σ = 0 ∨ f_X6_isSign x1 N σ = 1 := by
  unfold f_X6_isSign
  (repeat' split) <;> first | exact Or.inl rfl | exact Or.inr rfl
def u_X7_followWhole_1 (o : Nat) (q1 : Nat) (x2 : Int32) (n3 : Nat) (q3 : Nat) (x4 : Int32) (N : Nat) (σ : zS) : zS := s_X0_begin (o + 1) q1 x2 n3 q3 x4 N σ
def u_X7_followWhole_2 (o : Nat) (q1 : Nat) (x2 : Int32) (n3 : Nat) (q3 : Nat) (x4 : Int32) (N : Nat) (σ : zS) : zS := s_X8_put 3000 (o + 5) 0 1 (u_X7_followWhole_1 o q1 x2 n3 q3 x4 N σ)
def u_X7_followWhole_3 (o : Nat) (q1 : Nat) (x2 : Int32) (n3 : Nat) (q3 : Nat) (x4 : Int32) (N : Nat) (σ : zS) : zS := zuI (u_X7_followWhole_2 o q1 x2 n3 q3 x4 N σ) o 2 1
def u_X7_followWhole_4 (o : Nat) (q1 : Nat) (x2 : Int32) (n3 : Nat) (q3 : Nat) (x4 : Int32) (N : Nat) (σ : zS) : zS := zuI (u_X7_followWhole_3 o q1 x2 n3 q3 x4 N σ) o 3 1
def u_X7_followWhole_5 (o : Nat) (q1 : Nat) (x2 : Int32) (n3 : Nat) (q3 : Nat) (x4 : Int32) (N : Nat) (σ : zS) : zS := zuI (u_X7_followWhole_4 o q1 x2 n3 q3 x4 N σ) o 4 0
def u_X7_followWhole_6 (o : Nat) (q1 : Nat) (x2 : Int32) (n3 : Nat) (q3 : Nat) (x4 : Int32) (N : Nat) (σ : zS) : zS := s_X7_follow o q1 x2 2000 N (u_X7_followWhole_5 o q1 x2 n3 q3 x4 N σ)
def r_X7_followWhole (o : Nat) (q1 : Nat) (x2 : Int32) (n3 : Nat) (q3 : Nat) (x4 : Int32) (N : Nat) (σ : zS) : Int32 × zS := if ((u_X7_followWhole_6 o q1 x2 n3 q3 x4 N σ).1 (o + 1) 0) = 0 then (1, (u_X7_followWhole_6 o q1 x2 n3 q3 x4 N σ)) else (0, (u_X7_followWhole_6 o q1 x2 n3 q3 x4 N σ))
def p_X7_followWhole (o : Nat) (q1 : Nat) (x2 : Int32) (n3 : Nat) (q3 : Nat) (x4 : Int32) (N : Nat) (σ : zS) : Prop := p_X0_begin (o + 1) q1 x2 n3 q3 x4 N σ ∧ (p_X8_put 3000 (o + 5) 0 1 (u_X7_followWhole_1 o q1 x2 n3 q3 x4 N σ) ∧ p_X7_follow o q1 x2 2000 N (u_X7_followWhole_5 o q1 x2 n3 q3 x4 N σ))
set_option maxRecDepth 100000 in
set_option maxHeartbeats 1000000 in
theorem c_X7_followWhole {nx : Nat} (o : Nat) (q1 : Nat) (x2 : Int32) (n3 : Nat) (q3 : Nat) (x4 : Int32) (N : Nat) (σ : zS) (hp : p_X7_followWhole o q1 x2 n3 q3 x4 N σ) : zCl 6 zall nx zall nx 103 [.inr (7, 5, o), .inr (2, 16, q1), .inl x2, .inr (20, n3, q3), .inl x4] σ (fun v σ1 => v = some (.inl ((r_X7_followWhole o q1 x2 n3 q3 x4 N σ).1)) ∧ σ1 = (r_X7_followWhole o q1 x2 n3 q3 x4 N σ).2) := by
  refine zmeth (cd := kX7_followWhole) [] 1000 (Nat.le_of_ble_eq_true rfl) rfl okX7_followWhole (Nat.le_refl _) (Nat.le_of_ble_eq_true rfl) ?_
  refine zCl.use (c_X0_begin (o + 1) q1 x2 n3 q3 x4 N σ hp.1) (Nat.le_of_ble_eq_true rfl) ?_
  rintro _ σz ⟨rfl, hz⟩
  subst σz
  refine zCl.use (c_X8_put 3000 (o + 5) 0 1 (u_X7_followWhole_1 o q1 x2 n3 q3 x4 N σ) hp.2.1) (Nat.le_of_ble_eq_true rfl) ?_
  rintro _ σz ⟨rfl, hz⟩
  subst σz
  refine zCl.use (c_X7_follow o q1 x2 2000 N (u_X7_followWhole_5 o q1 x2 n3 q3 x4 N σ) hp.2.2) (Nat.le_of_ble_eq_true rfl) ?_
  rintro _ σz ⟨rfl, hz⟩
  subst σz
  refine And.intro (fun (h1 : ¬ ((u_X7_followWhole_6 o q1 x2 n3 q3 x4 N σ).1 (o + 1) 0) = 0) => ?_) (fun (h1 : ((u_X7_followWhole_6 o q1 x2 n3 q3 x4 N σ).1 (o + 1) 0) = 0) => ?_)
  · exact And.intro rfl (And.intro rfl (And.intro (Or.inl rfl) ⟨by rw [r_X7_followWhole, if_neg h1] <;> rfl, by rw [r_X7_followWhole, if_neg h1] <;> rfl⟩))
  · exact And.intro rfl (And.intro rfl (And.intro (Or.inr rfl) ⟨by rw [r_X7_followWhole, if_pos h1] <;> rfl, by rw [r_X7_followWhole, if_pos h1] <;> rfl⟩))
theorem b_X7_followWhole {o : Nat} {q1 : Nat} {x2 : Int32} {n3 : Nat} {q3 : Nat} {x4 : Int32} {N : Nat} {σ : zS} : (r_X7_followWhole o q1 x2 n3 q3 x4 N σ).1 = 0 ∨ (r_X7_followWhole o q1 x2 n3 q3 x4 N σ).1 = 1 := by
  unfold r_X7_followWhole
  (repeat' split) <;> first | exact Or.inl rfl | exact Or.inr rfl
def u_X7_followTask_1 (o : Nat) (q1 : Nat) (x2 : Int32) (N : Nat) (σ : zS) : zS := s_X0_begin (o + 1) q1 (f_X8_at 4 (q1 + 3) x2 σ) 16 (q1 + 4) (x2 * 4) N σ
def u_X7_followTask_2 (o : Nat) (q1 : Nat) (x2 : Int32) (N : Nat) (σ : zS) : zS := zuI (u_X7_followTask_1 o q1 x2 N σ) o 2 0
def u_X7_followTask_3 (o : Nat) (q1 : Nat) (x2 : Int32) (N : Nat) (σ : zS) : zS := s_X7_follow o q1 (f_X8_at 4 (q1 + 3) x2 σ) 3000 N (u_X7_followTask_2 o q1 x2 N σ)
def s_X7_followTask (o : Nat) (q1 : Nat) (x2 : Int32) (N : Nat) (σ : zS) : zS := (u_X7_followTask_3 o q1 x2 N σ)
def p_X7_followTask (o : Nat) (q1 : Nat) (x2 : Int32) (N : Nat) (σ : zS) : Prop := p_X8_at 4 (q1 + 3) x2 σ ∧ (p_X0_begin (o + 1) q1 (f_X8_at 4 (q1 + 3) x2 σ) 16 (q1 + 4) (x2 * 4) N σ ∧ p_X7_follow o q1 (f_X8_at 4 (q1 + 3) x2 σ) 3000 N (u_X7_followTask_2 o q1 x2 N σ))
set_option maxRecDepth 100000 in
set_option maxHeartbeats 1000000 in
theorem c_X7_followTask {nx : Nat} (o : Nat) (q1 : Nat) (x2 : Int32) (N : Nat) (σ : zS) (hp : p_X7_followTask o q1 x2 N σ) : zCl 6 zall nx zall nx 104 [.inr (7, 5, o), .inr (2, 16, q1), .inl x2] σ (fun v σ1 => v = none ∧ σ1 = s_X7_followTask o q1 x2 N σ) := by
  refine zmeth (cd := kX7_followTask) [] 1000 (Nat.le_of_ble_eq_true rfl) rfl okX7_followTask (Nat.le_refl _) (Nat.le_of_ble_eq_true rfl) ?_
  refine zCl.use (c_X8_at 4 (q1 + 3) x2 σ hp.1) (Nat.le_of_ble_eq_true rfl) ?_
  rintro _ σz ⟨rfl, hz⟩
  subst σz
  refine zCl.use (c_X0_begin (o + 1) q1 (f_X8_at 4 (q1 + 3) x2 σ) 16 (q1 + 4) (x2 * 4) N σ hp.2.1) (Nat.le_of_ble_eq_true rfl) ?_
  rintro _ σz ⟨rfl, hz⟩
  subst σz
  refine zCl.use (c_X7_follow o q1 (f_X8_at 4 (q1 + 3) x2 σ) 3000 N (u_X7_followTask_2 o q1 x2 N σ) hp.2.2) (Nat.le_of_ble_eq_true rfl) ?_
  rintro _ σz ⟨rfl, hz⟩
  subst σz
  exact And.intro rfl (And.intro rfl ⟨rfl, by rw [s_X7_followTask] <;> rfl⟩)
def u_X7_followOn_1 (o : Nat) (q1 : Nat) (q2 : Nat) (N : Nat) (σ : zS) : zS := s_X0_copyFrom (o + 1) q2 σ
def u_X7_followOn_2 (o : Nat) (q1 : Nat) (q2 : Nat) (N : Nat) (σ : zS) : zS := zuI (u_X7_followOn_1 o q1 q2 N σ) o 2 0
def u_X7_followOn_3 (o : Nat) (q1 : Nat) (q2 : Nat) (N : Nat) (σ : zS) : zS := s_X7_follow o q1 (-1) 3000 N (u_X7_followOn_2 o q1 q2 N σ)
def s_X7_followOn (o : Nat) (q1 : Nat) (q2 : Nat) (N : Nat) (σ : zS) : zS := (u_X7_followOn_3 o q1 q2 N σ)
def p_X7_followOn (o : Nat) (q1 : Nat) (q2 : Nat) (N : Nat) (σ : zS) : Prop := p_X0_copyFrom (o + 1) q2 σ ∧ p_X7_follow o q1 (-1) 3000 N (u_X7_followOn_2 o q1 q2 N σ)
set_option maxRecDepth 100000 in
set_option maxHeartbeats 1000000 in
theorem c_X7_followOn {nx : Nat} (o : Nat) (q1 : Nat) (q2 : Nat) (N : Nat) (σ : zS) (hp : p_X7_followOn o q1 q2 N σ) : zCl 6 zall nx zall nx 105 [.inr (7, 5, o), .inr (2, 16, q1), .inr (0, 9, q2)] σ (fun v σ1 => v = none ∧ σ1 = s_X7_followOn o q1 q2 N σ) := by
  refine zmeth (cd := kX7_followOn) [] 1000 (Nat.le_of_ble_eq_true rfl) rfl okX7_followOn (Nat.le_refl _) (Nat.le_of_ble_eq_true rfl) ?_
  refine zCl.use (c_X0_copyFrom (o + 1) q2 σ hp.1) (Nat.le_of_ble_eq_true rfl) ?_
  rintro _ σz ⟨rfl, hz⟩
  subst σz
  refine zCl.use (c_X7_follow o q1 (-1) 3000 N (u_X7_followOn_2 o q1 q2 N σ) hp.2) (Nat.le_of_ble_eq_true rfl) ?_
  rintro _ σz ⟨rfl, hz⟩
  subst σz
  exact And.intro rfl (And.intro rfl ⟨rfl, by rw [s_X7_followOn] <;> rfl⟩)
def u_X8_followPlainly_1 (x1 : Int32) (x2 : Int32) (x3 : Int32) (x4 : Int32) (x5 : Int32) (N : Nat) (σ : zS) : zS := s_X8_put 4 391 0 x2 σ
def u_X8_followPlainly_2 (x1 : Int32) (x2 : Int32) (x3 : Int32) (x4 : Int32) (x5 : Int32) (N : Nat) (σ : zS) : zS := s_X8_put 4 391 1 x3 (u_X8_followPlainly_1 x1 x2 x3 x4 x5 N σ)
def u_X8_followPlainly_3 (x1 : Int32) (x2 : Int32) (x3 : Int32) (x4 : Int32) (x5 : Int32) (N : Nat) (σ : zS) : zS := s_X8_put 4 391 2 x4 (u_X8_followPlainly_2 x1 x2 x3 x4 x5 N σ)
def u_X8_followPlainly_4 (x1 : Int32) (x2 : Int32) (x3 : Int32) (x4 : Int32) (x5 : Int32) (N : Nat) (σ : zS) : zS := s_X8_put 4 391 3 x5 (u_X8_followPlainly_3 x1 x2 x3 x4 x5 N σ)
def u_X8_followPlainly_5 (x1 : Int32) (x2 : Int32) (x3 : Int32) (x4 : Int32) (x5 : Int32) (N : Nat) (σ : zS) : zS := (r_X7_followWhole 384 ((u_X8_followPlainly_4 x1 x2 x3 x4 x5 N σ).2 0 5 - 1) x1 4 391 0 N (u_X8_followPlainly_4 x1 x2 x3 x4 x5 N σ)).2
def r_X8_followPlainly (x1 : Int32) (x2 : Int32) (x3 : Int32) (x4 : Int32) (x5 : Int32) (N : Nat) (σ : zS) : Int32 × zS := if x1 < 0 then (0, σ) else (if x1 < (σ.1 (σ.2 0 5 - 1) 6) then ((r_X7_followWhole 384 ((u_X8_followPlainly_4 x1 x2 x3 x4 x5 N σ).2 0 5 - 1) x1 4 391 0 N (u_X8_followPlainly_4 x1 x2 x3 x4 x5 N σ)).1, (u_X8_followPlainly_5 x1 x2 x3 x4 x5 N σ)) else (0, σ))
def p_X8_followPlainly (x1 : Int32) (x2 : Int32) (x3 : Int32) (x4 : Int32) (x5 : Int32) (N : Nat) (σ : zS) : Prop := ¬ x1 < 0 → ((σ.2 0 5 ≠ 0 ∧ zlay (σ.2 0 5 - 1) = (2, 16)) ∧ (x1 < (σ.1 (σ.2 0 5 - 1) 6) → (p_X8_put 4 391 0 x2 σ ∧ (p_X8_put 4 391 1 x3 (u_X8_followPlainly_1 x1 x2 x3 x4 x5 N σ) ∧ (p_X8_put 4 391 2 x4 (u_X8_followPlainly_2 x1 x2 x3 x4 x5 N σ) ∧ (p_X8_put 4 391 3 x5 (u_X8_followPlainly_3 x1 x2 x3 x4 x5 N σ) ∧ (((u_X8_followPlainly_4 x1 x2 x3 x4 x5 N σ).2 0 5 ≠ 0 ∧ zlay ((u_X8_followPlainly_4 x1 x2 x3 x4 x5 N σ).2 0 5 - 1) = (2, 16)) ∧ p_X7_followWhole 384 ((u_X8_followPlainly_4 x1 x2 x3 x4 x5 N σ).2 0 5 - 1) x1 4 391 0 N (u_X8_followPlainly_4 x1 x2 x3 x4 x5 N σ))))))))
set_option maxRecDepth 100000 in
set_option maxHeartbeats 1000000 in
theorem c_X8_followPlainly {nx : Nat} (x1 : Int32) (x2 : Int32) (x3 : Int32) (x4 : Int32) (x5 : Int32) (N : Nat) (σ : zS) (hp : p_X8_followPlainly x1 x2 x3 x4 x5 N σ) : zCl 7 zall nx zall nx 145 [.inr (8, 16, 0), .inl x1, .inl x2, .inl x3, .inl x4, .inl x5] σ (fun v σ1 => v = some (.inl ((r_X8_followPlainly x1 x2 x3 x4 x5 N σ).1)) ∧ σ1 = (r_X8_followPlainly x1 x2 x3 x4 x5 N σ).2) := by
  refine zmeth (cd := kX8_followPlainly) [] 1000 (Nat.le_of_ble_eq_true rfl) rfl okX8_followPlainly (Nat.le_refl _) (Nat.le_of_ble_eq_true rfl) ?_
  refine And.intro (fun (h1 : x1 < 0) => ?_) (fun (h1 : ¬ x1 < 0) => ?_)
  · exact And.intro rfl (And.intro rfl (And.intro (Or.inl rfl) ⟨by rw [r_X8_followPlainly, if_pos h1] <;> rfl, by rw [r_X8_followPlainly, if_pos h1] <;> rfl⟩))
  · refine And.intro (hp h1).1.1 (fun q902 (e2 : σ.2 0 5 = q902 + 1) => ?_)
    have g2 : q902 = (σ.2 0 5 - 1) := by omega
    subst g2
    rw [(hp h1).1.2]
    refine And.intro (fun (h3 : x1 < (σ.1 (σ.2 0 5 - 1) 6)) => ?_) (fun (h3 : ¬ x1 < (σ.1 (σ.2 0 5 - 1) 6)) => ?_)
    · refine zCl.use (c_X8_put 4 391 0 x2 σ ((hp h1).2 h3).1) (Nat.le_of_ble_eq_true rfl) ?_
      rintro _ σz ⟨rfl, hz⟩
      subst σz
      refine zCl.use (c_X8_put 4 391 1 x3 (u_X8_followPlainly_1 x1 x2 x3 x4 x5 N σ) ((hp h1).2 h3).2.1) (Nat.le_of_ble_eq_true rfl) ?_
      rintro _ σz ⟨rfl, hz⟩
      subst σz
      refine zCl.use (c_X8_put 4 391 2 x4 (u_X8_followPlainly_2 x1 x2 x3 x4 x5 N σ) ((hp h1).2 h3).2.2.1) (Nat.le_of_ble_eq_true rfl) ?_
      rintro _ σz ⟨rfl, hz⟩
      subst σz
      refine zCl.use (c_X8_put 4 391 3 x5 (u_X8_followPlainly_3 x1 x2 x3 x4 x5 N σ) ((hp h1).2 h3).2.2.2.1) (Nat.le_of_ble_eq_true rfl) ?_
      rintro _ σz ⟨rfl, hz⟩
      subst σz
      refine And.intro ((hp h1).2 h3).2.2.2.2.1.1 (fun q904 (e4 : (u_X8_followPlainly_4 x1 x2 x3 x4 x5 N σ).2 0 5 = q904 + 1) => ?_)
      have g4 : q904 = ((u_X8_followPlainly_4 x1 x2 x3 x4 x5 N σ).2 0 5 - 1) := by omega
      subst g4
      rw [((hp h1).2 h3).2.2.2.2.1.2]
      refine zCl.use (c_X7_followWhole 384 ((u_X8_followPlainly_4 x1 x2 x3 x4 x5 N σ).2 0 5 - 1) x1 4 391 0 N (u_X8_followPlainly_4 x1 x2 x3 x4 x5 N σ) ((hp h1).2 h3).2.2.2.2.2) (Nat.le_of_ble_eq_true rfl) ?_
      rintro _ σz ⟨rfl, hz⟩
      subst σz
      exact And.intro rfl (And.intro rfl (And.intro b_X7_followWhole ⟨by rw [r_X8_followPlainly, if_neg h1, if_pos h3] <;> rfl, by rw [r_X8_followPlainly, if_neg h1, if_pos h3] <;> rfl⟩))
    · exact And.intro rfl (And.intro rfl (And.intro (Or.inl rfl) ⟨by rw [r_X8_followPlainly, if_neg h1, if_neg h3] <;> rfl, by rw [r_X8_followPlainly, if_neg h1, if_neg h3] <;> rfl⟩))
theorem b_X8_followPlainly {x1 : Int32} {x2 : Int32} {x3 : Int32} {x4 : Int32} {x5 : Int32} {N : Nat} {σ : zS} : (r_X8_followPlainly x1 x2 x3 x4 x5 N σ).1 = 0 ∨ (r_X8_followPlainly x1 x2 x3 x4 x5 N σ).1 = 1 := by
  unfold r_X8_followPlainly
  (repeat' split) <;> first | exact Or.inl rfl | exact Or.inr rfl | exact b_X7_followWhole
def u_X8_followTask_1 (x1 : Int32) (N : Nat) (σ : zS) : zS := (r_X7_followWhole 384 (σ.2 0 5 - 1) (f_X8_at 4 ((σ.2 0 5 - 1) + 3) x1 σ) 16 ((σ.2 0 5 - 1) + 4) (x1 * 4) N σ).2
def r_X8_followTask (x1 : Int32) (N : Nat) (σ : zS) : Int32 × zS := if (f_X8_isTask x1 σ) = 0 then (0, σ) else (if ((r_X7_followWhole 384 (σ.2 0 5 - 1) (f_X8_at 4 ((σ.2 0 5 - 1) + 3) x1 σ) 16 ((σ.2 0 5 - 1) + 4) (x1 * 4) N σ).1) = 0 then (0, (u_X8_followTask_1 x1 N σ)) else (1, (u_X8_followTask_1 x1 N σ)))
def p_X8_followTask (x1 : Int32) (N : Nat) (σ : zS) : Prop := p_X8_isTask x1 σ ∧ (¬ (f_X8_isTask x1 σ) = 0 → ((σ.2 0 5 ≠ 0 ∧ zlay (σ.2 0 5 - 1) = (2, 16)) ∧ (p_X8_at 4 ((σ.2 0 5 - 1) + 3) x1 σ ∧ p_X7_followWhole 384 (σ.2 0 5 - 1) (f_X8_at 4 ((σ.2 0 5 - 1) + 3) x1 σ) 16 ((σ.2 0 5 - 1) + 4) (x1 * 4) N σ)))
set_option maxRecDepth 100000 in
set_option maxHeartbeats 1000000 in
theorem c_X8_followTask {nx : Nat} (x1 : Int32) (N : Nat) (σ : zS) (hp : p_X8_followTask x1 N σ) : zCl 7 zall nx zall nx 146 [.inr (8, 16, 0), .inl x1] σ (fun v σ1 => v = some (.inl ((r_X8_followTask x1 N σ).1)) ∧ σ1 = (r_X8_followTask x1 N σ).2) := by
  refine zmeth (cd := kX8_followTask) [] 1000 (Nat.le_of_ble_eq_true rfl) rfl okX8_followTask (Nat.le_refl _) (Nat.le_of_ble_eq_true rfl) ?_
  refine zCl.use (c_X8_isTask x1 σ hp.1) (Nat.le_of_ble_eq_true rfl) ?_
  rintro _ σz ⟨rfl, hz⟩
  subst σz
  refine And.intro (fun (h1 : (f_X8_isTask x1 σ) = 0) => ?_) (fun (h1 : ¬ (f_X8_isTask x1 σ) = 0) => ?_)
  · exact And.intro rfl (And.intro rfl (And.intro (Or.inl rfl) ⟨by rw [r_X8_followTask, if_pos h1] <;> rfl, by rw [r_X8_followTask, if_pos h1] <;> rfl⟩))
  · refine And.intro (hp.2 h1).1.1 (fun q902 (e2 : σ.2 0 5 = q902 + 1) => ?_)
    have g2 : q902 = (σ.2 0 5 - 1) := by omega
    subst g2
    rw [(hp.2 h1).1.2]
    refine And.intro (hp.2 h1).1.1 (fun q903 (e3 : σ.2 0 5 = q903 + 1) => ?_)
    have g3 : q903 = (σ.2 0 5 - 1) := by omega
    subst g3
    rw [(hp.2 h1).1.2]
    refine zCl.use (c_X8_at 4 ((σ.2 0 5 - 1) + 3) x1 σ (hp.2 h1).2.1) (Nat.le_of_ble_eq_true rfl) ?_
    rintro _ σz ⟨rfl, hz⟩
    subst σz
    refine And.intro (hp.2 h1).1.1 (fun q904 (e4 : σ.2 0 5 = q904 + 1) => ?_)
    have g4 : q904 = (σ.2 0 5 - 1) := by omega
    subst g4
    rw [(hp.2 h1).1.2]
    refine zCl.use (c_X7_followWhole 384 (σ.2 0 5 - 1) (f_X8_at 4 ((σ.2 0 5 - 1) + 3) x1 σ) 16 ((σ.2 0 5 - 1) + 4) (x1 * 4) N σ (hp.2 h1).2.2) (Nat.le_of_ble_eq_true rfl) ?_
    rintro _ σz ⟨rfl, hz⟩
    subst σz
    refine And.intro (fun (h5 : ((r_X7_followWhole 384 (σ.2 0 5 - 1) (f_X8_at 4 ((σ.2 0 5 - 1) + 3) x1 σ) 16 ((σ.2 0 5 - 1) + 4) (x1 * 4) N σ).1) = 0) => ?_) (fun (h5 : ¬ ((r_X7_followWhole 384 (σ.2 0 5 - 1) (f_X8_at 4 ((σ.2 0 5 - 1) + 3) x1 σ) 16 ((σ.2 0 5 - 1) + 4) (x1 * 4) N σ).1) = 0) => ?_)
    · exact And.intro rfl (And.intro rfl (And.intro (Or.inl rfl) ⟨by rw [r_X8_followTask, if_neg h1, if_pos h5] <;> rfl, by rw [r_X8_followTask, if_neg h1, if_pos h5] <;> rfl⟩))
    · exact And.intro rfl (And.intro rfl (And.intro (Or.inr rfl) ⟨by rw [r_X8_followTask, if_neg h1, if_neg h5] <;> rfl, by rw [r_X8_followTask, if_neg h1, if_neg h5] <;> rfl⟩))
theorem b_X8_followTask {x1 : Int32} {N : Nat} {σ : zS} : (r_X8_followTask x1 N σ).1 = 0 ∨ (r_X8_followTask x1 N σ).1 = 1 := by
  unfold r_X8_followTask
  (repeat' split) <;> first | exact Or.inl rfl | exact Or.inr rfl
def u_X8_lookAhead_h0_1 (N : Nat) (v1 : Int32) (σ : zS) : zS := s_X7_followOn (σ.2 390 (v1).toNatClampNeg - 1) (σ.2 0 5 - 1) ((f_X4_taskAt (f_X1_now σ) v1 σ) + 1) N σ
def u_X8_lookAhead_h0_2 (N : Nat) (v1 : Int32) (σ : zS) : zS := s_X7_followTask (σ.2 390 (v1).toNatClampNeg - 1) (σ.2 0 5 - 1) v1 N σ
def l_X8_lookAhead (N : Nat) : Nat → Int32 → zS → zS
  | 0, _, σ => σ
  | n + 1, v1, σ => if (σ.1 (σ.2 0 5 - 1) 7) ≤ v1 then σ else (if 4 ≤ v1 then σ else (if (σ.1 (f_X4_taskAt (f_X1_now σ) v1 σ) 1) = 0 then (l_X8_lookAhead N n (v1 + 1) (u_X8_lookAhead_h0_2 N v1 σ)) else (l_X8_lookAhead N n (v1 + 1) (u_X8_lookAhead_h0_1 N v1 σ))))
def q_X8_lookAhead (N : Nat) : Nat → Int32 → zS → Prop
  | 0, _, _ => False
  | n + 1, v1, σ => (σ.2 0 5 ≠ 0 ∧ zlay (σ.2 0 5 - 1) = (2, 16)) ∧ (¬ (σ.1 (σ.2 0 5 - 1) 7) ≤ v1 → (¬ 4 ≤ v1 → (p_X1_now σ ∧ (p_X4_taskAt (f_X1_now σ) v1 σ ∧ ((¬ (σ.1 (f_X4_taskAt (f_X1_now σ) v1 σ) 1) = 0 → (vp_in v1 4 ∧ ((σ.2 390 (v1).toNatClampNeg ≠ 0 ∧ zlay (σ.2 390 (v1).toNatClampNeg - 1) = (7, 5)) ∧ (p_X7_followOn (σ.2 390 (v1).toNatClampNeg - 1) (σ.2 0 5 - 1) ((f_X4_taskAt (f_X1_now σ) v1 σ) + 1) N σ ∧ q_X8_lookAhead N n (v1 + 1) (u_X8_lookAhead_h0_1 N v1 σ))))) ∧ ((σ.1 (f_X4_taskAt (f_X1_now σ) v1 σ) 1) = 0 → (vp_in v1 4 ∧ ((σ.2 390 (v1).toNatClampNeg ≠ 0 ∧ zlay (σ.2 390 (v1).toNatClampNeg - 1) = (7, 5)) ∧ (p_X7_followTask (σ.2 390 (v1).toNatClampNeg - 1) (σ.2 0 5 - 1) v1 N σ ∧ q_X8_lookAhead N n (v1 + 1) (u_X8_lookAhead_h0_2 N v1 σ))))))))))
set_option maxRecDepth 100000 in
set_option maxHeartbeats 1000000 in
theorem w_X8_lookAhead {nx : Nat} (N : Nat) : ∀ n : Nat, (∀ (v1 : Int32) (σ : zS), q_X8_lookAhead N n v1 σ → zWp 7 zall nx 147 (fun v σ1 => v = none ∧ σ1 = l_X8_lookAhead N n v1 σ) zall nx 2 [some (.inr (8, 16, 0)), some (.inl v1), none] [] σ) := by
  intro n
  induction n with
  | zero => exact fun _ _ h => h.elim
  | succ n ih =>
    intro v1 σ hp
    rw [q_X8_lookAhead] at hp
    refine zvc_sound (cd := kX8_lookAhead) (cs := [2]) rfl okX8_lookAhead 1000 _ _ 2 (zseek kX8_lookAhead 2) _ _ _ zseek_sub ?_
    refine And.intro hp.1.1 (fun q901 (e1 : σ.2 0 5 = q901 + 1) => ?_)
    have g1 : q901 = (σ.2 0 5 - 1) := by omega
    subst g1
    rw [hp.1.2]
    refine And.intro (fun (h2 : (σ.1 (σ.2 0 5 - 1) 7) ≤ v1) => ?_) (fun (h2 : ¬ (σ.1 (σ.2 0 5 - 1) 7) ≤ v1) => ?_)
    · exact And.intro rfl (And.intro rfl ⟨rfl, by rw [l_X8_lookAhead, if_pos h2] <;> rfl⟩)
    · refine And.intro (fun (h3 : 4 ≤ v1) => ?_) (fun (h3 : ¬ 4 ≤ v1) => ?_)
      · exact And.intro rfl (And.intro rfl ⟨rfl, by rw [l_X8_lookAhead, if_neg h2, if_pos h3] <;> rfl⟩)
      · refine zCl.use (c_X1_now σ ((hp.2 h2) h3).1) (Nat.le_of_ble_eq_true rfl) ?_
        rintro _ σz ⟨rfl, hz⟩
        subst σz
        refine zCl.use (c_X4_taskAt (f_X1_now σ) v1 σ ((hp.2 h2) h3).2.1) (Nat.le_of_ble_eq_true rfl) ?_
        rintro _ σz ⟨rfl, hz⟩
        subst σz
        refine And.intro (fun (h4 : ¬ (σ.1 (f_X4_taskAt (f_X1_now σ) v1 σ) 1) = 0) => ?_) (fun (h4 : (σ.1 (f_X4_taskAt (f_X1_now σ) v1 σ) 1) = 0) => ?_)
        · refine And.intro (((hp.2 h2) h3).2.2.1 h4).1 ?_
          refine And.intro (((hp.2 h2) h3).2.2.1 h4).2.1.1 (fun q905 (e5 : σ.2 390 (v1).toNatClampNeg = q905 + 1) => ?_)
          have g5 : q905 = (σ.2 390 (v1).toNatClampNeg - 1) := by omega
          subst g5
          rw [(((hp.2 h2) h3).2.2.1 h4).2.1.2]
          refine And.intro hp.1.1 (fun q906 (e6 : σ.2 0 5 = q906 + 1) => ?_)
          have g6 : q906 = (σ.2 0 5 - 1) := by omega
          subst g6
          rw [hp.1.2]
          refine zCl.use (c_X7_followOn (σ.2 390 (v1).toNatClampNeg - 1) (σ.2 0 5 - 1) ((f_X4_taskAt (f_X1_now σ) v1 σ) + 1) N σ (((hp.2 h2) h3).2.2.1 h4).2.2.1) (Nat.le_of_ble_eq_true rfl) ?_
          rintro _ σz ⟨rfl, hz⟩
          subst σz
          refine zWp.use (ih (v1 + 1) (u_X8_lookAhead_h0_1 N v1 σ) (((hp.2 h2) h3).2.2.1 h4).2.2.2) (And.intro rfl (And.intro rfl trivial)) (fun vy σy hy => ?_)
          rw [l_X8_lookAhead, if_neg h2, if_neg h3, if_neg h4]; exact hy
        · refine And.intro (((hp.2 h2) h3).2.2.2 h4).1 ?_
          refine And.intro (((hp.2 h2) h3).2.2.2 h4).2.1.1 (fun q907 (e7 : σ.2 390 (v1).toNatClampNeg = q907 + 1) => ?_)
          have g7 : q907 = (σ.2 390 (v1).toNatClampNeg - 1) := by omega
          subst g7
          rw [(((hp.2 h2) h3).2.2.2 h4).2.1.2]
          refine And.intro hp.1.1 (fun q908 (e8 : σ.2 0 5 = q908 + 1) => ?_)
          have g8 : q908 = (σ.2 0 5 - 1) := by omega
          subst g8
          rw [hp.1.2]
          refine zCl.use (c_X7_followTask (σ.2 390 (v1).toNatClampNeg - 1) (σ.2 0 5 - 1) v1 N σ (((hp.2 h2) h3).2.2.2 h4).2.2.1) (Nat.le_of_ble_eq_true rfl) ?_
          rintro _ σz ⟨rfl, hz⟩
          subst σz
          refine zWp.use (ih (v1 + 1) (u_X8_lookAhead_h0_2 N v1 σ) (((hp.2 h2) h3).2.2.2 h4).2.2.2) (And.intro rfl (And.intro rfl trivial)) (fun vy σy hy => ?_)
          rw [l_X8_lookAhead, if_neg h2, if_neg h3, if_pos h4]; exact hy
def s_X8_lookAhead (N : Nat) (σ : zS) : zS := l_X8_lookAhead N N 0 σ
def p_X8_lookAhead (N : Nat) (σ : zS) : Prop := q_X8_lookAhead N N 0 σ
set_option maxRecDepth 100000 in
set_option maxHeartbeats 1000000 in
theorem c_X8_lookAhead {nx : Nat} (N : Nat) (σ : zS) (hp : p_X8_lookAhead N σ) : zCl 7 zall nx zall nx 147 [.inr (8, 16, 0)] σ (fun v σ1 => v = none ∧ σ1 = s_X8_lookAhead N σ) := by
  refine zmeth (cd := kX8_lookAhead) [2] 1000 (Nat.le_of_ble_eq_true rfl) rfl okX8_lookAhead (Nat.le_refl _) (Nat.le_of_ble_eq_true rfl) ?_
  refine zWp.use ((w_X8_lookAhead N N) 0 σ hp) (And.intro rfl (And.intro rfl trivial)) (fun vy σy hy => ?_)
  rw [s_X8_lookAhead]; exact hy
