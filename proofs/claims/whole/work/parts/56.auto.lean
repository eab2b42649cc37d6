/-! printed by wip/whole/dec2.py -/
def u_X9_again_1 (x1 : Int32) (N : Nat) (σ : zS) : zS := s_X9_keepAct N σ
def u_X9_again_2 (x1 : Int32) (N : Nat) (σ : zS) : zS := s_X9_clearTask x1 N (u_X9_again_1 x1 N σ)
def u_X9_again_3 (x1 : Int32) (N : Nat) (σ : zS) : zS := zuI (u_X9_again_2 x1 N σ) 469 3 x1
def r_X9_again (x1 : Int32) (N : Nat) (σ : zS) : Int32 × zS := if (f_X9_isTask x1 σ) = 0 then (0, σ) else (if (f_X9_isOver x1 σ) = 0 then (0, σ) else (if 0 ≤ ((u_X9_again_2 x1 N σ).1 469 3) then (1, (u_X9_again_2 x1 N σ)) else (1, (u_X9_again_3 x1 N σ))))
def p_X9_again (x1 : Int32) (N : Nat) (σ : zS) : Prop := p_X9_isTask x1 σ ∧ (¬ (f_X9_isTask x1 σ) = 0 → (p_X9_isOver x1 σ ∧ (¬ (f_X9_isOver x1 σ) = 0 → (p_X9_keepAct N σ ∧ p_X9_clearTask x1 N (u_X9_again_1 x1 N σ)))))
set_option maxRecDepth 100000 in
set_option maxHeartbeats 1000000 in
theorem c_X9_again {nx : Nat} (x1 : Int32) (N : Nat) (σ : zS) (hp : p_X9_again x1 N σ) : zCl 4 zall nx zall nx 268 [.inr (9, 57, 468), .inl x1] σ (fun v σ1 => v = some (.inl ((r_X9_again x1 N σ).1)) ∧ σ1 = (r_X9_again x1 N σ).2) := by
  refine zmeth (cd := kX9_again) [] 1000 (Nat.le_of_ble_eq_true rfl) rfl okX9_again (Nat.le_refl _) (Nat.le_of_ble_eq_true rfl) ?_
  refine zCl.use (c_X9_isTask x1 σ hp.1) (Nat.le_of_ble_eq_true rfl) ?_
  rintro _ σz ⟨rfl, hz⟩
  subst σz
  refine And.intro (fun (h1 : (f_X9_isTask x1 σ) = 0) => ?_) (fun (h1 : ¬ (f_X9_isTask x1 σ) = 0) => ?_)
  · exact And.intro rfl (And.intro rfl (And.intro (Or.inl rfl) ⟨by rw [r_X9_again, if_pos h1] <;> rfl, by rw [r_X9_again, if_pos h1] <;> rfl⟩))
  · refine zCl.use (c_X9_isOver x1 σ (hp.2 h1).1) (Nat.le_of_ble_eq_true rfl) ?_
    rintro _ σz ⟨rfl, hz⟩
    subst σz
    refine And.intro (fun (h2 : ¬ (f_X9_isOver x1 σ) = 0) => ?_) (fun (h2 : (f_X9_isOver x1 σ) = 0) => ?_)
    · refine zCl.use (c_X9_keepAct N σ ((hp.2 h1).2 h2).1) (Nat.le_of_ble_eq_true rfl) ?_
      rintro _ σz ⟨rfl, hz⟩
      subst σz
      refine zCl.use (c_X9_clearTask x1 N (u_X9_again_1 x1 N σ) ((hp.2 h1).2 h2).2) (Nat.le_of_ble_eq_true rfl) ?_
      rintro _ σz ⟨rfl, hz⟩
      subst σz
      refine And.intro (vp_in_iff.mpr (by decide)) ?_
      refine And.intro (fun (h3 : 0 ≤ ((u_X9_again_2 x1 N σ).1 469 3)) => ?_) (fun (h3 : ¬ 0 ≤ ((u_X9_again_2 x1 N σ).1 469 3)) => ?_)
      · exact And.intro rfl (And.intro rfl (And.intro (Or.inr rfl) ⟨by rw [r_X9_again, if_neg h1, if_neg h2, if_pos h3] <;> rfl, by rw [r_X9_again, if_neg h1, if_neg h2, if_pos h3] <;> rfl⟩))
      · refine And.intro (vp_in_iff.mpr (by decide)) ?_
        exact And.intro rfl (And.intro rfl (And.intro (Or.inr rfl) ⟨by rw [r_X9_again, if_neg h1, if_neg h2, if_neg h3] <;> rfl, by rw [r_X9_again, if_neg h1, if_neg h2, if_neg h3] <;> rfl⟩))
    · exact And.intro rfl (And.intro rfl (And.intro (Or.inl rfl) ⟨by rw [r_X9_again, if_neg h1, if_pos h2] <;> rfl, by rw [r_X9_again, if_neg h1, if_pos h2] <;> rfl⟩))
theorem b_X9_again {x1 : Int32} {N : Nat} {σ : zS} : (r_X9_again x1 N σ).1 = 0 ∨ (r_X9_again x1 N σ).1 = 1 := by
  unfold r_X9_again
  (repeat' split) <;> first | exact Or.inl rfl | exact Or.inr rfl
def u_X9_law_h0_1 (N : Nat) (v1 : Int32) (v2 : Int32) (σ : zS) : zS := (r_X9_goTaskPlain v2 N σ).2
def l_X9_law (N : Nat) : Nat → Nat → Int32 → Int32 → zS → Int32 × zS
  | 0, _, _, _, σ => (0, σ)
  | n + 1, 0, v1, v2, σ => if (f_X9_many σ) ≤ v2 then (l_X9_law N n 1 v1 0 σ) else (if (f_X9_state v2 σ) = 2 then (if ((r_X9_goTaskPlain v2 N σ).1) = 0 then (l_X9_law N n 0 (v1 + 0) (v2 + 1) (u_X9_law_h0_1 N v1 v2 σ)) else (if ((u_X9_law_h0_1 N v1 v2 σ).1 468 48) = ((u_X9_law_h0_1 N v1 v2 σ).1 469 (f_X9_atTask v2 11).toNatClampNeg) then (l_X9_law N n 0 (v1 + 0) (v2 + 1) (u_X9_law_h0_1 N v1 v2 σ)) else (l_X9_law N n 0 (v1 + 1) (v2 + 1) (u_X9_law_h0_1 N v1 v2 σ)))) else (l_X9_law N n 0 (v1 + 0) (v2 + 1) σ))
  | n + 1, 1, v1, v2, σ => if (f_X9_windowsNow σ) ≤ v2 then (v1, σ) else (if (f_X9_isFree v2 σ) = 0 then (if (f_X9_where (σ.1 469 (12 + v2).toNatClampNeg) (σ.1 469 (24 + v2).toNatClampNeg) σ) = v2 then (l_X9_law N n 1 (v1 + 0) (v2 + 1) σ) else (l_X9_law N n 1 (v1 + 1) (v2 + 1) σ)) else (l_X9_law N n 1 (v1 + 0) (v2 + 1) σ))
  | _ + 1, _, _, _, σ => (0, σ)
def q_X9_law (N : Nat) : Nat → Nat → Int32 → Int32 → zS → Prop
  | 0, _, _, _, _ => False
  | n + 1, 0, v1, v2, σ => p_X9_many σ ∧ (((f_X9_many σ) ≤ v2 → q_X9_law N n 1 v1 0 σ) ∧ (¬ (f_X9_many σ) ≤ v2 → (p_X9_state v2 σ ∧ ((¬ (f_X9_state v2 σ) = 2 → q_X9_law N n 0 (v1 + 0) (v2 + 1) σ) ∧ ((f_X9_state v2 σ) = 2 → (p_X9_goTaskPlain v2 N σ ∧ ((((r_X9_goTaskPlain v2 N σ).1) = 0 → q_X9_law N n 0 (v1 + 0) (v2 + 1) (u_X9_law_h0_1 N v1 v2 σ)) ∧ (¬ ((r_X9_goTaskPlain v2 N σ).1) = 0 → (vp_in (f_X9_atTask v2 11) 14241 ∧ ((((u_X9_law_h0_1 N v1 v2 σ).1 468 48) = ((u_X9_law_h0_1 N v1 v2 σ).1 469 (f_X9_atTask v2 11).toNatClampNeg) → q_X9_law N n 0 (v1 + 0) (v2 + 1) (u_X9_law_h0_1 N v1 v2 σ)) ∧ (¬ ((u_X9_law_h0_1 N v1 v2 σ).1 468 48) = ((u_X9_law_h0_1 N v1 v2 σ).1 469 (f_X9_atTask v2 11).toNatClampNeg) → q_X9_law N n 0 (v1 + 1) (v2 + 1) (u_X9_law_h0_1 N v1 v2 σ))))))))))))
  | n + 1, 1, v1, v2, σ => p_X9_windowsNow σ ∧ (¬ (f_X9_windowsNow σ) ≤ v2 → (p_X9_isFree v2 σ ∧ ((¬ (f_X9_isFree v2 σ) = 0 → q_X9_law N n 1 (v1 + 0) (v2 + 1) σ) ∧ ((f_X9_isFree v2 σ) = 0 → (vp_in (12 + v2) 14241 ∧ (vp_in (24 + v2) 14241 ∧ (p_X9_where (σ.1 469 (12 + v2).toNatClampNeg) (σ.1 469 (24 + v2).toNatClampNeg) σ ∧ (((f_X9_where (σ.1 469 (12 + v2).toNatClampNeg) (σ.1 469 (24 + v2).toNatClampNeg) σ) = v2 → q_X9_law N n 1 (v1 + 0) (v2 + 1) σ) ∧ (¬ (f_X9_where (σ.1 469 (12 + v2).toNatClampNeg) (σ.1 469 (24 + v2).toNatClampNeg) σ) = v2 → q_X9_law N n 1 (v1 + 1) (v2 + 1) σ)))))))))
  | _ + 1, _, _, _, _ => False
set_option maxRecDepth 100000 in
set_option maxHeartbeats 1000000 in
theorem w_X9_law {nx : Nat} (N : Nat) : ∀ n : Nat, (∀ (v1 : Int32) (v2 : Int32) (σ : zS), q_X9_law N n 0 v1 v2 σ → zWp 7 zall nx 277 (fun v σ1 => v = some (.inl ((l_X9_law N n 0 v1 v2 σ).1)) ∧ σ1 = (l_X9_law N n 0 v1 v2 σ).2) zall nx 4 [some (.inr (9, 57, 468)), some (.inl v1), some (.inl v2)] [] σ) ∧ (∀ (v1 : Int32) (v2 : Int32) (σ : zS), q_X9_law N n 1 v1 v2 σ → zWp 7 zall nx 277 (fun v σ1 => v = some (.inl ((l_X9_law N n 1 v1 v2 σ).1)) ∧ σ1 = (l_X9_law N n 1 v1 v2 σ).2) zall nx 63 [some (.inr (9, 57, 468)), some (.inl v1), some (.inl v2)] [] σ) := by
  intro n
  induction n with
  | zero => exact ⟨fun _ _ _ h => h.elim, fun _ _ _ h => h.elim⟩
  | succ n ih =>
    refine ⟨?_, ?_⟩
    · intro v1 v2 σ hp
      rw [q_X9_law] at hp
      refine zvc_sound (cd := kX9_law) (cs := [4, 63]) rfl okX9_law 1000 _ _ 4 (zseek kX9_law 4) _ _ _ zseek_sub ?_
      refine zCl.use (c_X9_many σ hp.1) (Nat.le_of_ble_eq_true rfl) ?_
      rintro _ σz ⟨rfl, hz⟩
      subst σz
      refine And.intro (fun (h1 : (f_X9_many σ) ≤ v2) => ?_) (fun (h1 : ¬ (f_X9_many σ) ≤ v2) => ?_)
      · refine zWp.use (ih.2 v1 0 σ (hp.2.1 h1)) (And.intro rfl (And.intro rfl (And.intro rfl trivial))) (fun vy σy hy => ?_)
        rw [l_X9_law, if_pos h1]; exact hy
      · refine zCl.use (c_X9_state v2 σ (hp.2.2 h1).1) (Nat.le_of_ble_eq_true rfl) ?_
        rintro _ σz ⟨rfl, hz⟩
        subst σz
        refine And.intro (fun (h2 : ¬ (f_X9_state v2 σ) = 2) => ?_) (fun (h2 : (f_X9_state v2 σ) = 2) => ?_)
        · refine zWp.use (ih.1 (v1 + 0) (v2 + 1) σ ((hp.2.2 h1).2.1 h2)) (And.intro rfl (And.intro rfl (And.intro rfl trivial))) (fun vy σy hy => ?_)
          rw [l_X9_law, if_neg h1, if_neg h2]; exact hy
        · refine zCl.use (c_X9_goTaskPlain v2 N σ ((hp.2.2 h1).2.2 h2).1) (Nat.le_of_ble_eq_true rfl) ?_
          rintro _ σz ⟨rfl, hz⟩
          subst σz
          refine And.intro (fun (h3 : ((r_X9_goTaskPlain v2 N σ).1) = 0) => ?_) (fun (h3 : ¬ ((r_X9_goTaskPlain v2 N σ).1) = 0) => ?_)
          · refine zWp.use (ih.1 (v1 + 0) (v2 + 1) (u_X9_law_h0_1 N v1 v2 σ) (((hp.2.2 h1).2.2 h2).2.1 h3)) (And.intro rfl (And.intro rfl (And.intro rfl trivial))) (fun vy σy hy => ?_)
            rw [l_X9_law, if_neg h1, if_pos h2, if_pos h3]; exact hy
          · refine zCl.use (c_X9_atTask v2 11 (u_X9_law_h0_1 N v1 v2 σ)) (Nat.le_of_ble_eq_true rfl) ?_
            rintro _ σz ⟨rfl, hz⟩
            subst σz
            refine And.intro (((hp.2.2 h1).2.2 h2).2.2 h3).1 ?_
            refine And.intro (fun (h4 : ((u_X9_law_h0_1 N v1 v2 σ).1 468 48) = ((u_X9_law_h0_1 N v1 v2 σ).1 469 (f_X9_atTask v2 11).toNatClampNeg)) => ?_) (fun (h4 : ¬ ((u_X9_law_h0_1 N v1 v2 σ).1 468 48) = ((u_X9_law_h0_1 N v1 v2 σ).1 469 (f_X9_atTask v2 11).toNatClampNeg)) => ?_)
            · refine zWp.use (ih.1 (v1 + 0) (v2 + 1) (u_X9_law_h0_1 N v1 v2 σ) ((((hp.2.2 h1).2.2 h2).2.2 h3).2.1 h4)) (And.intro rfl (And.intro rfl (And.intro rfl trivial))) (fun vy σy hy => ?_)
              rw [l_X9_law, if_neg h1, if_pos h2, if_neg h3, if_pos h4]; exact hy
            · refine zWp.use (ih.1 (v1 + 1) (v2 + 1) (u_X9_law_h0_1 N v1 v2 σ) ((((hp.2.2 h1).2.2 h2).2.2 h3).2.2 h4)) (And.intro rfl (And.intro rfl (And.intro rfl trivial))) (fun vy σy hy => ?_)
              rw [l_X9_law, if_neg h1, if_pos h2, if_neg h3, if_neg h4]; exact hy
    · intro v1 v2 σ hp
      rw [q_X9_law] at hp
      refine zvc_sound (cd := kX9_law) (cs := [4, 63]) rfl okX9_law 1000 _ _ 63 (zseek kX9_law 63) _ _ _ zseek_sub ?_
      refine zCl.use (c_X9_windowsNow σ hp.1) (Nat.le_of_ble_eq_true rfl) ?_
      rintro _ σz ⟨rfl, hz⟩
      subst σz
      refine And.intro (fun (h1 : (f_X9_windowsNow σ) ≤ v2) => ?_) (fun (h1 : ¬ (f_X9_windowsNow σ) ≤ v2) => ?_)
      · exact And.intro rfl (And.intro rfl ⟨by rw [l_X9_law, if_pos h1] <;> rfl, by rw [l_X9_law, if_pos h1] <;> rfl⟩)
      · refine zCl.use (c_X9_isFree v2 σ (hp.2 h1).1) (Nat.le_of_ble_eq_true rfl) ?_
        rintro _ σz ⟨rfl, hz⟩
        subst σz
        refine And.intro (fun (h2 : ¬ (f_X9_isFree v2 σ) = 0) => ?_) (fun (h2 : (f_X9_isFree v2 σ) = 0) => ?_)
        · refine zWp.use (ih.2 (v1 + 0) (v2 + 1) σ ((hp.2 h1).2.1 h2)) (And.intro rfl (And.intro rfl (And.intro rfl trivial))) (fun vy σy hy => ?_)
          rw [l_X9_law, if_neg h1, if_neg h2]; exact hy
        · refine And.intro ((hp.2 h1).2.2 h2).1 ?_
          refine And.intro ((hp.2 h1).2.2 h2).2.1 ?_
          refine zCl.use (c_X9_where (σ.1 469 (12 + v2).toNatClampNeg) (σ.1 469 (24 + v2).toNatClampNeg) σ ((hp.2 h1).2.2 h2).2.2.1) (Nat.le_of_ble_eq_true rfl) ?_
          rintro _ σz ⟨rfl, hz⟩
          subst σz
          refine And.intro (fun (h3 : (f_X9_where (σ.1 469 (12 + v2).toNatClampNeg) (σ.1 469 (24 + v2).toNatClampNeg) σ) = v2) => ?_) (fun (h3 : ¬ (f_X9_where (σ.1 469 (12 + v2).toNatClampNeg) (σ.1 469 (24 + v2).toNatClampNeg) σ) = v2) => ?_)
          · refine zWp.use (ih.2 (v1 + 0) (v2 + 1) σ (((hp.2 h1).2.2 h2).2.2.2.1 h3)) (And.intro rfl (And.intro rfl (And.intro rfl trivial))) (fun vy σy hy => ?_)
            rw [l_X9_law, if_neg h1, if_pos h2, if_pos h3]; exact hy
          · refine zWp.use (ih.2 (v1 + 1) (v2 + 1) σ (((hp.2 h1).2.2 h2).2.2.2.2 h3)) (And.intro rfl (And.intro rfl (And.intro rfl trivial))) (fun vy σy hy => ?_)
            rw [l_X9_law, if_neg h1, if_pos h2, if_neg h3]; exact hy
def r_X9_law (N : Nat) (σ : zS) : Int32 × zS := l_X9_law N N 0 0 0 σ
def p_X9_law (N : Nat) (σ : zS) : Prop := q_X9_law N N 0 0 0 σ
set_option maxRecDepth 100000 in
set_option maxHeartbeats 1000000 in
theorem c_X9_law {nx : Nat} (N : Nat) (σ : zS) (hp : p_X9_law N σ) : zCl 7 zall nx zall nx 277 [.inr (9, 57, 468)] σ (fun v σ1 => v = some (.inl ((r_X9_law N σ).1)) ∧ σ1 = (r_X9_law N σ).2) := by
  refine zmeth (cd := kX9_law) [4, 63] 1000 (Nat.le_of_ble_eq_true rfl) rfl okX9_law (Nat.le_refl _) (Nat.le_of_ble_eq_true rfl) ?_
  refine zWp.use ((w_X9_law N N).1 0 0 σ hp) (And.intro rfl (And.intro rfl (And.intro rfl trivial))) (fun vy σy hy => ?_)
  rw [r_X9_law]; exact hy
def u_X9_would_1 (x1 : Int32) (x2 : Int32) (x3 : Int32) (N : Nat) (σ : zS) : zS := s_X9_putAside N σ
def u_X9_would_2 (x1 : Int32) (x2 : Int32) (x3 : Int32) (N : Nat) (σ : zS) : zS := s_X9_setWay x1 x2 N (u_X9_would_1 x1 x2 x3 N σ)
def u_X9_would_3 (x1 : Int32) (x2 : Int32) (x3 : Int32) (N : Nat) (σ : zS) : zS := (r_X9_goEvents 3000 N (u_X9_would_2 x1 x2 x3 N σ)).2
def u_X9_would_4 (x1 : Int32) (x2 : Int32) (x3 : Int32) (N : Nat) (σ : zS) : zS := s_X9_bringBack N (u_X9_would_3 x1 x2 x3 N σ)
def r_X9_would (x1 : Int32) (x2 : Int32) (x3 : Int32) (N : Nat) (σ : zS) : Int32 × zS := if (f_X9_isWay x1 x2) = 0 then (-1, σ) else (if (f_X9_isIn x3 0 3) = 0 then (-1, σ) else (f_X9_camesBy x3 ((r_X9_goEvents 3000 N (u_X9_would_2 x1 x2 x3 N σ)).1) (u_X9_would_3 x1 x2 x3 N σ), (u_X9_would_4 x1 x2 x3 N σ)))
def p_X9_would (x1 : Int32) (x2 : Int32) (x3 : Int32) (N : Nat) (σ : zS) : Prop := ¬ (f_X9_isWay x1 x2) = 0 → (¬ (f_X9_isIn x3 0 3) = 0 → (p_X9_putAside N σ ∧ (p_X9_setWay x1 x2 N (u_X9_would_1 x1 x2 x3 N σ) ∧ (p_X9_goEvents 3000 N (u_X9_would_2 x1 x2 x3 N σ) ∧ p_X9_bringBack N (u_X9_would_3 x1 x2 x3 N σ)))))
set_option maxRecDepth 100000 in
set_option maxHeartbeats 1000000 in
theorem c_X9_would {nx : Nat} (x1 : Int32) (x2 : Int32) (x3 : Int32) (N : Nat) (σ : zS) (hp : p_X9_would x1 x2 x3 N σ) : zCl 8 zall nx zall nx 281 [.inr (9, 57, 468), .inl x1, .inl x2, .inl x3] σ (fun v σ1 => v = some (.inl ((r_X9_would x1 x2 x3 N σ).1)) ∧ σ1 = (r_X9_would x1 x2 x3 N σ).2) := by
  refine zmeth (cd := kX9_would) [] 1000 (Nat.le_of_ble_eq_true rfl) rfl okX9_would (Nat.le_refl _) (Nat.le_of_ble_eq_true rfl) ?_
  refine zCl.use (c_X9_isWay x1 x2 σ) (Nat.le_of_ble_eq_true rfl) ?_
  rintro _ σz ⟨rfl, hz⟩
  subst σz
  refine And.intro (fun (h1 : (f_X9_isWay x1 x2) = 0) => ?_) (fun (h1 : ¬ (f_X9_isWay x1 x2) = 0) => ?_)
  · exact And.intro rfl (And.intro rfl ⟨by rw [r_X9_would, if_pos h1] <;> rfl, by rw [r_X9_would, if_pos h1] <;> rfl⟩)
  · refine zCl.use (c_X9_isIn x3 0 3 σ) (Nat.le_of_ble_eq_true rfl) ?_
    rintro _ σz ⟨rfl, hz⟩
    subst σz
    refine And.intro (fun (h2 : ¬ (f_X9_isIn x3 0 3) = 0) => ?_) (fun (h2 : (f_X9_isIn x3 0 3) = 0) => ?_)
    · refine zCl.use (c_X9_putAside N σ ((hp h1) h2).1) (Nat.le_of_ble_eq_true rfl) ?_
      rintro _ σz ⟨rfl, hz⟩
      subst σz
      refine zCl.use (c_X9_setWay x1 x2 N (u_X9_would_1 x1 x2 x3 N σ) ((hp h1) h2).2.1) (Nat.le_of_ble_eq_true rfl) ?_
      rintro _ σz ⟨rfl, hz⟩
      subst σz
      refine zCl.use (c_X9_goEvents 3000 N (u_X9_would_2 x1 x2 x3 N σ) ((hp h1) h2).2.2.1) (Nat.le_of_ble_eq_true rfl) ?_
      rintro _ σz ⟨rfl, hz⟩
      subst σz
      refine zCl.use (c_X9_camesBy x3 ((r_X9_goEvents 3000 N (u_X9_would_2 x1 x2 x3 N σ)).1) (u_X9_would_3 x1 x2 x3 N σ)) (Nat.le_of_ble_eq_true rfl) ?_
      rintro _ σz ⟨rfl, hz⟩
      subst σz
      refine zCl.use (c_X9_bringBack N (u_X9_would_3 x1 x2 x3 N σ) ((hp h1) h2).2.2.2) (Nat.le_of_ble_eq_true rfl) ?_
      rintro _ σz ⟨rfl, hz⟩
      subst σz
      exact And.intro rfl (And.intro rfl ⟨by rw [r_X9_would, if_neg h1, if_neg h2] <;> rfl, by rw [r_X9_would, if_neg h1, if_neg h2] <;> rfl⟩)
    · exact And.intro rfl (And.intro rfl ⟨by rw [r_X9_would, if_neg h1, if_pos h2] <;> rfl, by rw [r_X9_would, if_neg h1, if_pos h2] <;> rfl⟩)
def u_X9_best_h0_1 (N : Nat) (v1 : Int32) (v2 : Int32) (v3 : Int32) (v4 : Int32) (σ : zS) : zS := (r_X9_would (f_X9_triedWay v4) (f_X9_triedN v4) 0 N σ).2
def l_X9_best (N : Nat) : Nat → Int32 → Int32 → Int32 → Int32 → zS → Int32 × zS
  | 0, _, _, _, _, σ => (0, σ)
  | n + 1, v1, v2, v3, v4, σ => if 5 ≤ v4 then (if v1 = 0 then (v2, σ) else (v3, σ)) else (if ((r_X9_would (f_X9_triedWay v4) (f_X9_triedN v4) 0 N σ).1) < v3 then (l_X9_best N n v1 v4 ((r_X9_would (f_X9_triedWay v4) (f_X9_triedN v4) 0 N σ).1) (v4 + 1) (u_X9_best_h0_1 N v1 v2 v3 v4 σ)) else (l_X9_best N n v1 v2 v3 (v4 + 1) (u_X9_best_h0_1 N v1 v2 v3 v4 σ)))
def q_X9_best (N : Nat) : Nat → Int32 → Int32 → Int32 → Int32 → zS → Prop
  | 0, _, _, _, _, _ => False
  | n + 1, v1, v2, v3, v4, σ => ¬ 5 ≤ v4 → (p_X9_would (f_X9_triedWay v4) (f_X9_triedN v4) 0 N σ ∧ ((((r_X9_would (f_X9_triedWay v4) (f_X9_triedN v4) 0 N σ).1) < v3 → q_X9_best N n v1 v4 ((r_X9_would (f_X9_triedWay v4) (f_X9_triedN v4) 0 N σ).1) (v4 + 1) (u_X9_best_h0_1 N v1 v2 v3 v4 σ)) ∧ (¬ ((r_X9_would (f_X9_triedWay v4) (f_X9_triedN v4) 0 N σ).1) < v3 → q_X9_best N n v1 v2 v3 (v4 + 1) (u_X9_best_h0_1 N v1 v2 v3 v4 σ))))
set_option maxRecDepth 100000 in
set_option maxHeartbeats 1000000 in
theorem w_X9_best {nx : Nat} (N : Nat) : ∀ n : Nat, (∀ (v1 : Int32) (v2 : Int32) (v3 : Int32) (v4 : Int32) (σ : zS), q_X9_best N n v1 v2 v3 v4 σ → zWp 9 zall nx 284 (fun v σ1 => v = some (.inl ((l_X9_best N n v1 v2 v3 v4 σ).1)) ∧ σ1 = (l_X9_best N n v1 v2 v3 v4 σ).2) zall nx 20 [some (.inr (9, 57, 468)), some (.inl v1), some (.inl v2), some (.inl v3), some (.inl v4), none] [] σ) := by
  intro n
  induction n with
  | zero => exact fun _ _ _ _ _ h => h.elim
  | succ n ih =>
    intro v1 v2 v3 v4 σ hp
    rw [q_X9_best] at hp
    refine zvc_sound (cd := kX9_best) (cs := [20]) rfl okX9_best 1000 _ _ 20 (zseek kX9_best 20) _ _ _ zseek_sub ?_
    refine And.intro (fun (h1 : 5 ≤ v4) => ?_) (fun (h1 : ¬ 5 ≤ v4) => ?_)
    · refine And.intro (fun (h2 : ¬ v1 = 0) => ?_) (fun (h2 : v1 = 0) => ?_)
      · exact And.intro rfl (And.intro rfl ⟨by rw [l_X9_best, if_pos h1, if_neg h2] <;> rfl, by rw [l_X9_best, if_pos h1, if_neg h2] <;> rfl⟩)
      · exact And.intro rfl (And.intro rfl ⟨by rw [l_X9_best, if_pos h1, if_pos h2] <;> rfl, by rw [l_X9_best, if_pos h1, if_pos h2] <;> rfl⟩)
    · refine zCl.use (c_X9_triedWay v4 σ) (Nat.le_of_ble_eq_true rfl) ?_
      rintro _ σz ⟨rfl, hz⟩
      subst σz
      refine zCl.use (c_X9_triedN v4 σ) (Nat.le_of_ble_eq_true rfl) ?_
      rintro _ σz ⟨rfl, hz⟩
      subst σz
      refine zCl.use (c_X9_would (f_X9_triedWay v4) (f_X9_triedN v4) 0 N σ (hp h1).1) (Nat.le_of_ble_eq_true rfl) ?_
      rintro _ σz ⟨rfl, hz⟩
      subst σz
      refine And.intro (fun (h3 : ((r_X9_would (f_X9_triedWay v4) (f_X9_triedN v4) 0 N σ).1) < v3) => ?_) (fun (h3 : ¬ ((r_X9_would (f_X9_triedWay v4) (f_X9_triedN v4) 0 N σ).1) < v3) => ?_)
      · refine zWp.use (ih v1 v4 ((r_X9_would (f_X9_triedWay v4) (f_X9_triedN v4) 0 N σ).1) (v4 + 1) (u_X9_best_h0_1 N v1 v2 v3 v4 σ) ((hp h1).2.1 h3)) (And.intro rfl (And.intro rfl (And.intro rfl (And.intro rfl (And.intro rfl trivial))))) (fun vy σy hy => ?_)
        rw [l_X9_best, if_neg h1, if_pos h3]; exact hy
      · refine zWp.use (ih v1 v2 v3 (v4 + 1) (u_X9_best_h0_1 N v1 v2 v3 v4 σ) ((hp h1).2.2 h3)) (And.intro rfl (And.intro rfl (And.intro rfl (And.intro rfl (And.intro rfl trivial))))) (fun vy σy hy => ?_)
        rw [l_X9_best, if_neg h1, if_neg h3]; exact hy
def r_X9_best (x1 : Int32) (N : Nat) (σ : zS) : Int32 × zS := if (f_X9_isIn x1 0 1) = 0 then (-1, σ) else (l_X9_best N N x1 0 536870912 0 σ)
def p_X9_best (x1 : Int32) (N : Nat) (σ : zS) : Prop := ¬ (f_X9_isIn x1 0 1) = 0 → q_X9_best N N x1 0 536870912 0 σ
set_option maxRecDepth 100000 in
set_option maxHeartbeats 1000000 in
theorem c_X9_best {nx : Nat} (x1 : Int32) (N : Nat) (σ : zS) (hp : p_X9_best x1 N σ) : zCl 9 zall nx zall nx 284 [.inr (9, 57, 468), .inl x1] σ (fun v σ1 => v = some (.inl ((r_X9_best x1 N σ).1)) ∧ σ1 = (r_X9_best x1 N σ).2) := by
  refine zmeth (cd := kX9_best) [20] 1000 (Nat.le_of_ble_eq_true rfl) rfl okX9_best (Nat.le_refl _) (Nat.le_of_ble_eq_true rfl) ?_
  refine zCl.use (c_X9_isIn x1 0 1 σ) (Nat.le_of_ble_eq_true rfl) ?_
  rintro _ σz ⟨rfl, hz⟩
  subst σz
  refine And.intro (fun (h1 : ¬ (f_X9_isIn x1 0 1) = 0) => ?_) (fun (h1 : (f_X9_isIn x1 0 1) = 0) => ?_)
  · refine zWp.use ((w_X9_best N N) x1 0 536870912 0 σ (hp h1)) (And.intro rfl (And.intro rfl (And.intro rfl (And.intro rfl (And.intro rfl trivial))))) (fun vy σy hy => ?_)
    rw [r_X9_best, if_neg h1]; exact hy
  · exact And.intro rfl (And.intro rfl ⟨by rw [r_X9_best, if_pos h1] <;> rfl, by rw [r_X9_best, if_pos h1] <;> rfl⟩)
def u_X9_sliced_1 (x1 : Int32) (N : Nat) (σ : zS) : zS := s_X9_putAside N σ
def u_X9_sliced_2 (x1 : Int32) (N : Nat) (σ : zS) : zS := zuI (u_X9_sliced_1 x1 N σ) 469 5 x1
def u_X9_sliced_3 (x1 : Int32) (N : Nat) (σ : zS) : zS := (r_X9_goEvents 3000 N (u_X9_sliced_2 x1 N σ)).2
def u_X9_sliced_4 (x1 : Int32) (N : Nat) (σ : zS) : zS := s_X9_bringBack N (u_X9_sliced_3 x1 N σ)
def r_X9_sliced (x1 : Int32) (N : Nat) (σ : zS) : Int32 × zS := (f_X9_camesBy 0 ((r_X9_goEvents 3000 N (u_X9_sliced_2 x1 N σ)).1) (u_X9_sliced_3 x1 N σ), (u_X9_sliced_4 x1 N σ))
def p_X9_sliced (x1 : Int32) (N : Nat) (σ : zS) : Prop := p_X9_putAside N σ ∧ (p_X9_goEvents 3000 N (u_X9_sliced_2 x1 N σ) ∧ p_X9_bringBack N (u_X9_sliced_3 x1 N σ))
set_option maxRecDepth 100000 in
set_option maxHeartbeats 1000000 in
theorem c_X9_sliced {nx : Nat} (x1 : Int32) (N : Nat) (σ : zS) (hp : p_X9_sliced x1 N σ) : zCl 8 zall nx zall nx 285 [.inr (9, 57, 468), .inl x1] σ (fun v σ1 => v = some (.inl ((r_X9_sliced x1 N σ).1)) ∧ σ1 = (r_X9_sliced x1 N σ).2) := by
  refine zmeth (cd := kX9_sliced) [] 1000 (Nat.le_of_ble_eq_true rfl) rfl okX9_sliced (Nat.le_refl _) (Nat.le_of_ble_eq_true rfl) ?_
  refine zCl.use (c_X9_putAside N σ hp.1) (Nat.le_of_ble_eq_true rfl) ?_
  rintro _ σz ⟨rfl, hz⟩
  subst σz
  refine And.intro (vp_in_iff.mpr (by decide)) ?_
  refine zCl.use (c_X9_goEvents 3000 N (u_X9_sliced_2 x1 N σ) hp.2.1) (Nat.le_of_ble_eq_true rfl) ?_
  rintro _ σz ⟨rfl, hz⟩
  subst σz
  refine zCl.use (c_X9_camesBy 0 ((r_X9_goEvents 3000 N (u_X9_sliced_2 x1 N σ)).1) (u_X9_sliced_3 x1 N σ)) (Nat.le_of_ble_eq_true rfl) ?_
  rintro _ σz ⟨rfl, hz⟩
  subst σz
  refine zCl.use (c_X9_bringBack N (u_X9_sliced_3 x1 N σ) hp.2.2) (Nat.le_of_ble_eq_true rfl) ?_
  rintro _ σz ⟨rfl, hz⟩
  subst σz
  exact And.intro rfl (And.intro rfl ⟨by rw [r_X9_sliced] <;> rfl, by rw [r_X9_sliced] <;> rfl⟩)
def u_X9_bestSlice_h0_1 (N : Nat) (v1 : Int32) (v2 : Int32) (v3 : Int32) (v4 : Int32) (σ : zS) : zS := (r_X9_sliced v4 N σ).2
def l_X9_bestSlice (N : Nat) : Nat → Int32 → Int32 → Int32 → Int32 → zS → Int32 × zS
  | 0, _, _, _, _, σ => (0, σ)
  | n + 1, v1, v2, v3, v4, σ => if 50 < v4 then (if v1 = 0 then (v2, σ) else (v3, σ)) else (if ((r_X9_sliced v4 N σ).1) < v3 then (l_X9_bestSlice N n v1 v4 ((r_X9_sliced v4 N σ).1) (v4 + 1) (u_X9_bestSlice_h0_1 N v1 v2 v3 v4 σ)) else (l_X9_bestSlice N n v1 v2 v3 (v4 + 1) (u_X9_bestSlice_h0_1 N v1 v2 v3 v4 σ)))
def q_X9_bestSlice (N : Nat) : Nat → Int32 → Int32 → Int32 → Int32 → zS → Prop
  | 0, _, _, _, _, _ => False
  | n + 1, v1, v2, v3, v4, σ => ¬ 50 < v4 → (p_X9_sliced v4 N σ ∧ ((((r_X9_sliced v4 N σ).1) < v3 → q_X9_bestSlice N n v1 v4 ((r_X9_sliced v4 N σ).1) (v4 + 1) (u_X9_bestSlice_h0_1 N v1 v2 v3 v4 σ)) ∧ (¬ ((r_X9_sliced v4 N σ).1) < v3 → q_X9_bestSlice N n v1 v2 v3 (v4 + 1) (u_X9_bestSlice_h0_1 N v1 v2 v3 v4 σ))))
set_option maxRecDepth 100000 in
set_option maxHeartbeats 1000000 in
theorem w_X9_bestSlice {nx : Nat} (N : Nat) : ∀ n : Nat, (∀ (v1 : Int32) (v2 : Int32) (v3 : Int32) (v4 : Int32) (σ : zS), q_X9_bestSlice N n v1 v2 v3 v4 σ → zWp 9 zall nx 286 (fun v σ1 => v = some (.inl ((l_X9_bestSlice N n v1 v2 v3 v4 σ).1)) ∧ σ1 = (l_X9_bestSlice N n v1 v2 v3 v4 σ).2) zall nx 20 [some (.inr (9, 57, 468)), some (.inl v1), some (.inl v2), some (.inl v3), some (.inl v4), none] [] σ) := by
  intro n
  induction n with
  | zero => exact fun _ _ _ _ _ h => h.elim
  | succ n ih =>
    intro v1 v2 v3 v4 σ hp
    rw [q_X9_bestSlice] at hp
    refine zvc_sound (cd := kX9_bestSlice) (cs := [20]) rfl okX9_bestSlice 1000 _ _ 20 (zseek kX9_bestSlice 20) _ _ _ zseek_sub ?_
    refine And.intro (fun (h1 : 50 < v4) => ?_) (fun (h1 : ¬ 50 < v4) => ?_)
    · refine And.intro (fun (h2 : ¬ v1 = 0) => ?_) (fun (h2 : v1 = 0) => ?_)
      · exact And.intro rfl (And.intro rfl ⟨by rw [l_X9_bestSlice, if_pos h1, if_neg h2] <;> rfl, by rw [l_X9_bestSlice, if_pos h1, if_neg h2] <;> rfl⟩)
      · exact And.intro rfl (And.intro rfl ⟨by rw [l_X9_bestSlice, if_pos h1, if_pos h2] <;> rfl, by rw [l_X9_bestSlice, if_pos h1, if_pos h2] <;> rfl⟩)
    · refine zCl.use (c_X9_sliced v4 N σ (hp h1).1) (Nat.le_of_ble_eq_true rfl) ?_
      rintro _ σz ⟨rfl, hz⟩
      subst σz
      refine And.intro (fun (h3 : ((r_X9_sliced v4 N σ).1) < v3) => ?_) (fun (h3 : ¬ ((r_X9_sliced v4 N σ).1) < v3) => ?_)
      · refine zWp.use (ih v1 v4 ((r_X9_sliced v4 N σ).1) (v4 + 1) (u_X9_bestSlice_h0_1 N v1 v2 v3 v4 σ) ((hp h1).2.1 h3)) (And.intro rfl (And.intro rfl (And.intro rfl (And.intro rfl (And.intro rfl trivial))))) (fun vy σy hy => ?_)
        rw [l_X9_bestSlice, if_neg h1, if_pos h3]; exact hy
      · refine zWp.use (ih v1 v2 v3 (v4 + 1) (u_X9_bestSlice_h0_1 N v1 v2 v3 v4 σ) ((hp h1).2.2 h3)) (And.intro rfl (And.intro rfl (And.intro rfl (And.intro rfl (And.intro rfl trivial))))) (fun vy σy hy => ?_)
        rw [l_X9_bestSlice, if_neg h1, if_neg h3]; exact hy
def r_X9_bestSlice (x1 : Int32) (N : Nat) (σ : zS) : Int32 × zS := if (f_X9_isIn x1 0 1) = 0 then (-1, σ) else (l_X9_bestSlice N N x1 0 536870912 1 σ)
def p_X9_bestSlice (x1 : Int32) (N : Nat) (σ : zS) : Prop := ¬ (f_X9_isIn x1 0 1) = 0 → q_X9_bestSlice N N x1 0 536870912 1 σ
set_option maxRecDepth 100000 in
set_option maxHeartbeats 1000000 in
theorem c_X9_bestSlice {nx : Nat} (x1 : Int32) (N : Nat) (σ : zS) (hp : p_X9_bestSlice x1 N σ) : zCl 9 zall nx zall nx 286 [.inr (9, 57, 468), .inl x1] σ (fun v σ1 => v = some (.inl ((r_X9_bestSlice x1 N σ).1)) ∧ σ1 = (r_X9_bestSlice x1 N σ).2) := by
  refine zmeth (cd := kX9_bestSlice) [20] 1000 (Nat.le_of_ble_eq_true rfl) rfl okX9_bestSlice (Nat.le_refl _) (Nat.le_of_ble_eq_true rfl) ?_
  refine zCl.use (c_X9_isIn x1 0 1 σ) (Nat.le_of_ble_eq_true rfl) ?_
  rintro _ σz ⟨rfl, hz⟩
  subst σz
  refine And.intro (fun (h1 : ¬ (f_X9_isIn x1 0 1) = 0) => ?_) (fun (h1 : (f_X9_isIn x1 0 1) = 0) => ?_)
  · refine zWp.use ((w_X9_bestSlice N N) x1 0 536870912 1 σ (hp h1)) (And.intro rfl (And.intro rfl (And.intro rfl (And.intro rfl (And.intro rfl trivial))))) (fun vy σy hy => ?_)
    rw [r_X9_bestSlice, if_neg h1]; exact hy
  · exact And.intro rfl (And.intro rfl ⟨by rw [r_X9_bestSlice, if_pos h1] <;> rfl, by rw [r_X9_bestSlice, if_pos h1] <;> rfl⟩)
def u_X9_alone_h0_1 (N : Nat) (v1 : Int32) (v2 : Int32) (v3 : Int32) (v4 : Int32) (v5 : Int32) (σ : zS) : zS := s_X9_clearRing N σ
def u_X9_alone_h0_2 (N : Nat) (v1 : Int32) (v2 : Int32) (v3 : Int32) (v4 : Int32) (v5 : Int32) (σ : zS) : zS := s_X9_setWay v2 v3 N (u_X9_alone_h0_1 N v1 v2 v3 v4 v5 σ)
def u_X9_alone_h0_3 (N : Nat) (v1 : Int32) (v2 : Int32) (v3 : Int32) (v4 : Int32) (v5 : Int32) (σ : zS) : zS := zuI (u_X9_alone_h0_2 N v1 v2 v3 v4 v5 σ) 469 3 v1
def u_X9_alone_h0_4 (N : Nat) (v1 : Int32) (v2 : Int32) (v3 : Int32) (v4 : Int32) (v5 : Int32) (σ : zS) : zS := zuI (u_X9_alone_h0_3 N v1 v2 v3 v4 v5 σ) 469 4 0
def u_X9_alone_h0_5 (N : Nat) (v1 : Int32) (v2 : Int32) (v3 : Int32) (v4 : Int32) (v5 : Int32) (σ : zS) : zS := (r_X9_goEvents 2000 N (u_X9_alone_h0_4 N v1 v2 v3 v4 v5 σ)).2
def u_X9_alone_h0_6 (N : Nat) (v1 : Int32) (v2 : Int32) (v3 : Int32) (v4 : Int32) (v5 : Int32) (σ : zS) : zS := s_X9_bringBack N (u_X9_alone_h0_5 N v1 v2 v3 v4 v5 σ)
def u_X9_alone_h0_7 (N : Nat) (v1 : Int32) (v2 : Int32) (v3 : Int32) (v4 : Int32) (v5 : Int32) (σ : zS) : zS := s_X9_clearTask v5 N σ
def u_X9_alone_h0_8 (N : Nat) (v1 : Int32) (v2 : Int32) (v3 : Int32) (v4 : Int32) (v5 : Int32) (σ : zS) : zS := zuI (u_X9_alone_h0_7 N v1 v2 v3 v4 v5 σ) 469 (f_X9_atTask v5 0).toNatClampNeg 2
def u_X9_alone_h0_9 (N : Nat) (v1 : Int32) (v2 : Int32) (v3 : Int32) (v4 : Int32) (v5 : Int32) (σ : zS) : zS := zuI (u_X9_alone_h0_7 N v1 v2 v3 v4 v5 σ) 469 (f_X9_atTask v5 0).toNatClampNeg 0
def l_X9_alone (N : Nat) : Nat → Int32 → Int32 → Int32 → Int32 → Int32 → zS → Int32 × zS
  | 0, _, _, _, _, _, σ => (0, σ)
  | n + 1, v1, v2, v3, v4, v5, σ => if 4 ≤ v5 then (f_X9_camesBy v4 ((r_X9_goEvents 2000 N (u_X9_alone_h0_4 N v1 v2 v3 v4 v5 σ)).1) (u_X9_alone_h0_5 N v1 v2 v3 v4 v5 σ), (u_X9_alone_h0_6 N v1 v2 v3 v4 v5 σ)) else (if v5 = v1 then (l_X9_alone N n v1 v2 v3 v4 (v5 + 1) (u_X9_alone_h0_9 N v1 v2 v3 v4 v5 σ)) else (l_X9_alone N n v1 v2 v3 v4 (v5 + 1) (u_X9_alone_h0_8 N v1 v2 v3 v4 v5 σ)))
def q_X9_alone (N : Nat) : Nat → Int32 → Int32 → Int32 → Int32 → Int32 → zS → Prop
  | 0, _, _, _, _, _, _ => False
  | n + 1, v1, v2, v3, v4, v5, σ => (4 ≤ v5 → (p_X9_clearRing N σ ∧ (p_X9_setWay v2 v3 N (u_X9_alone_h0_1 N v1 v2 v3 v4 v5 σ) ∧ (p_X9_goEvents 2000 N (u_X9_alone_h0_4 N v1 v2 v3 v4 v5 σ) ∧ p_X9_bringBack N (u_X9_alone_h0_5 N v1 v2 v3 v4 v5 σ))))) ∧ (¬ 4 ≤ v5 → (p_X9_clearTask v5 N σ ∧ ((¬ v5 = v1 → (vp_in (f_X9_atTask v5 0) 14241 ∧ q_X9_alone N n v1 v2 v3 v4 (v5 + 1) (u_X9_alone_h0_8 N v1 v2 v3 v4 v5 σ))) ∧ (v5 = v1 → (vp_in (f_X9_atTask v5 0) 14241 ∧ q_X9_alone N n v1 v2 v3 v4 (v5 + 1) (u_X9_alone_h0_9 N v1 v2 v3 v4 v5 σ))))))
set_option maxRecDepth 100000 in
set_option maxHeartbeats 1000000 in
theorem w_X9_alone {nx : Nat} (N : Nat) : ∀ n : Nat, (∀ (v1 : Int32) (v2 : Int32) (v3 : Int32) (v4 : Int32) (v5 : Int32) (σ : zS), q_X9_alone N n v1 v2 v3 v4 v5 σ → zWp 8 zall nx 287 (fun v σ1 => v = some (.inl ((l_X9_alone N n v1 v2 v3 v4 v5 σ).1)) ∧ σ1 = (l_X9_alone N n v1 v2 v3 v4 v5 σ).2) zall nx 43 [some (.inr (9, 57, 468)), some (.inl v1), some (.inl v2), some (.inl v3), some (.inl v4), some (.inl v5)] [] σ) := by
  intro n
  induction n with
  | zero => exact fun _ _ _ _ _ _ h => h.elim
  | succ n ih =>
    intro v1 v2 v3 v4 v5 σ hp
    rw [q_X9_alone] at hp
    refine zvc_sound (cd := kX9_alone) (cs := [43]) rfl okX9_alone 1000 _ _ 43 (zseek kX9_alone 43) _ _ _ zseek_sub ?_
    refine And.intro (fun (h1 : 4 ≤ v5) => ?_) (fun (h1 : ¬ 4 ≤ v5) => ?_)
    · refine zCl.use (c_X9_clearRing N σ (hp.1 h1).1) (Nat.le_of_ble_eq_true rfl) ?_
      rintro _ σz ⟨rfl, hz⟩
      subst σz
      refine zCl.use (c_X9_setWay v2 v3 N (u_X9_alone_h0_1 N v1 v2 v3 v4 v5 σ) (hp.1 h1).2.1) (Nat.le_of_ble_eq_true rfl) ?_
      rintro _ σz ⟨rfl, hz⟩
      subst σz
      refine And.intro (vp_in_iff.mpr (by decide)) ?_
      refine And.intro (vp_in_iff.mpr (by decide)) ?_
      refine zCl.use (c_X9_goEvents 2000 N (u_X9_alone_h0_4 N v1 v2 v3 v4 v5 σ) (hp.1 h1).2.2.1) (Nat.le_of_ble_eq_true rfl) ?_
      rintro _ σz ⟨rfl, hz⟩
      subst σz
      refine zCl.use (c_X9_camesBy v4 ((r_X9_goEvents 2000 N (u_X9_alone_h0_4 N v1 v2 v3 v4 v5 σ)).1) (u_X9_alone_h0_5 N v1 v2 v3 v4 v5 σ)) (Nat.le_of_ble_eq_true rfl) ?_
      rintro _ σz ⟨rfl, hz⟩
      subst σz
      refine zCl.use (c_X9_bringBack N (u_X9_alone_h0_5 N v1 v2 v3 v4 v5 σ) (hp.1 h1).2.2.2) (Nat.le_of_ble_eq_true rfl) ?_
      rintro _ σz ⟨rfl, hz⟩
      subst σz
      exact And.intro rfl (And.intro rfl ⟨by rw [l_X9_alone, if_pos h1] <;> rfl, by rw [l_X9_alone, if_pos h1] <;> rfl⟩)
    · refine zCl.use (c_X9_clearTask v5 N σ (hp.2 h1).1) (Nat.le_of_ble_eq_true rfl) ?_
      rintro _ σz ⟨rfl, hz⟩
      subst σz
      refine zCl.use (c_X9_atTask v5 0 (u_X9_alone_h0_7 N v1 v2 v3 v4 v5 σ)) (Nat.le_of_ble_eq_true rfl) ?_
      rintro _ σz ⟨rfl, hz⟩
      subst σz
      refine And.intro (fun (h2 : ¬ v5 = v1) => ?_) (fun (h2 : v5 = v1) => ?_)
      · refine And.intro ((hp.2 h1).2.1 h2).1 ?_
        refine zWp.use (ih v1 v2 v3 v4 (v5 + 1) (u_X9_alone_h0_8 N v1 v2 v3 v4 v5 σ) ((hp.2 h1).2.1 h2).2) (And.intro rfl (And.intro rfl (And.intro rfl (And.intro rfl (And.intro rfl (And.intro rfl trivial)))))) (fun vy σy hy => ?_)
        rw [l_X9_alone, if_neg h1, if_neg h2]; exact hy
      · refine And.intro ((hp.2 h1).2.2 h2).1 ?_
        refine zWp.use (ih v1 v2 v3 v4 (v5 + 1) (u_X9_alone_h0_9 N v1 v2 v3 v4 v5 σ) ((hp.2 h1).2.2 h2).2) (And.intro rfl (And.intro rfl (And.intro rfl (And.intro rfl (And.intro rfl (And.intro rfl trivial)))))) (fun vy σy hy => ?_)
        rw [l_X9_alone, if_neg h1, if_pos h2]; exact hy
def u_X9_alone_1 (x1 : Int32) (x2 : Int32) (x3 : Int32) (x4 : Int32) (N : Nat) (σ : zS) : zS := (r_X9_goTaskPlain x1 N σ).2
def u_X9_alone_2 (x1 : Int32) (x2 : Int32) (x3 : Int32) (x4 : Int32) (N : Nat) (σ : zS) : zS := s_X9_putAside N (u_X9_alone_1 x1 x2 x3 x4 N σ)
def r_X9_alone (x1 : Int32) (x2 : Int32) (x3 : Int32) (x4 : Int32) (N : Nat) (σ : zS) : Int32 × zS := if (f_X9_isTask x1 σ) = 0 then (-1, σ) else (if (f_X9_isWay x2 x3) = 0 then (-1, σ) else (if (f_X9_isIn x4 0 2) = 0 then (-1, σ) else (if ((r_X9_goTaskPlain x1 N σ).1) = 0 then (-1, (u_X9_alone_1 x1 x2 x3 x4 N σ)) else (l_X9_alone N N x1 x2 x3 x4 0 (u_X9_alone_2 x1 x2 x3 x4 N σ)))))
def p_X9_alone (x1 : Int32) (x2 : Int32) (x3 : Int32) (x4 : Int32) (N : Nat) (σ : zS) : Prop := p_X9_isTask x1 σ ∧ (¬ (f_X9_isTask x1 σ) = 0 → (¬ (f_X9_isWay x2 x3) = 0 → (¬ (f_X9_isIn x4 0 2) = 0 → (p_X9_goTaskPlain x1 N σ ∧ (¬ ((r_X9_goTaskPlain x1 N σ).1) = 0 → (p_X9_putAside N (u_X9_alone_1 x1 x2 x3 x4 N σ) ∧ q_X9_alone N N x1 x2 x3 x4 0 (u_X9_alone_2 x1 x2 x3 x4 N σ)))))))
set_option maxRecDepth 100000 in
set_option maxHeartbeats 1000000 in
theorem c_X9_alone {nx : Nat} (x1 : Int32) (x2 : Int32) (x3 : Int32) (x4 : Int32) (N : Nat) (σ : zS) (hp : p_X9_alone x1 x2 x3 x4 N σ) : zCl 8 zall nx zall nx 287 [.inr (9, 57, 468), .inl x1, .inl x2, .inl x3, .inl x4] σ (fun v σ1 => v = some (.inl ((r_X9_alone x1 x2 x3 x4 N σ).1)) ∧ σ1 = (r_X9_alone x1 x2 x3 x4 N σ).2) := by
  refine zmeth (cd := kX9_alone) [43] 1000 (Nat.le_of_ble_eq_true rfl) rfl okX9_alone (Nat.le_refl _) (Nat.le_of_ble_eq_true rfl) ?_
  refine zCl.use (c_X9_isTask x1 σ hp.1) (Nat.le_of_ble_eq_true rfl) ?_
  rintro _ σz ⟨rfl, hz⟩
  subst σz
  refine And.intro (fun (h1 : (f_X9_isTask x1 σ) = 0) => ?_) (fun (h1 : ¬ (f_X9_isTask x1 σ) = 0) => ?_)
  · exact And.intro rfl (And.intro rfl ⟨by rw [r_X9_alone, if_pos h1] <;> rfl, by rw [r_X9_alone, if_pos h1] <;> rfl⟩)
  · refine zCl.use (c_X9_isWay x2 x3 σ) (Nat.le_of_ble_eq_true rfl) ?_
    rintro _ σz ⟨rfl, hz⟩
    subst σz
    refine And.intro (fun (h2 : (f_X9_isWay x2 x3) = 0) => ?_) (fun (h2 : ¬ (f_X9_isWay x2 x3) = 0) => ?_)
    · exact And.intro rfl (And.intro rfl ⟨by rw [r_X9_alone, if_neg h1, if_pos h2] <;> rfl, by rw [r_X9_alone, if_neg h1, if_pos h2] <;> rfl⟩)
    · refine zCl.use (c_X9_isIn x4 0 2 σ) (Nat.le_of_ble_eq_true rfl) ?_
      rintro _ σz ⟨rfl, hz⟩
      subst σz
      refine And.intro (fun (h3 : (f_X9_isIn x4 0 2) = 0) => ?_) (fun (h3 : ¬ (f_X9_isIn x4 0 2) = 0) => ?_)
      · exact And.intro rfl (And.intro rfl ⟨by rw [r_X9_alone, if_neg h1, if_neg h2, if_pos h3] <;> rfl, by rw [r_X9_alone, if_neg h1, if_neg h2, if_pos h3] <;> rfl⟩)
      · refine zCl.use (c_X9_goTaskPlain x1 N σ (((hp.2 h1) h2) h3).1) (Nat.le_of_ble_eq_true rfl) ?_
        rintro _ σz ⟨rfl, hz⟩
        subst σz
        refine And.intro (fun (h4 : ¬ ((r_X9_goTaskPlain x1 N σ).1) = 0) => ?_) (fun (h4 : ((r_X9_goTaskPlain x1 N σ).1) = 0) => ?_)
        · refine zCl.use (c_X9_putAside N (u_X9_alone_1 x1 x2 x3 x4 N σ) ((((hp.2 h1) h2) h3).2 h4).1) (Nat.le_of_ble_eq_true rfl) ?_
          rintro _ σz ⟨rfl, hz⟩
          subst σz
          refine zWp.use ((w_X9_alone N N) x1 x2 x3 x4 0 (u_X9_alone_2 x1 x2 x3 x4 N σ) ((((hp.2 h1) h2) h3).2 h4).2) (And.intro rfl (And.intro rfl (And.intro rfl (And.intro rfl (And.intro rfl (And.intro rfl trivial)))))) (fun vy σy hy => ?_)
          rw [r_X9_alone, if_neg h1, if_neg h2, if_neg h3, if_neg h4]; exact hy
        · exact And.intro rfl (And.intro rfl ⟨by rw [r_X9_alone, if_neg h1, if_neg h2, if_neg h3, if_pos h4] <;> rfl, by rw [r_X9_alone, if_neg h1, if_neg h2, if_neg h3, if_pos h4] <;> rfl⟩)
def f_J0_length_8abf5 (t0 : Nat) : Int32 := (Int32.ofNat (zslenL.getD t0 0)) >>> (0 &&& 31)
set_option maxRecDepth 100000 in
set_option maxHeartbeats 1000000 in
theorem c_J0_length_8abf5 {cp : Nat → Bool} {nx : Nat} (t0 : Nat) (σ : zS) : zCl 2 cp nx cp nx 297 [.inr (30, t0, (1000010 + t0))] σ (fun v σ1 => v = some (.inl (f_J0_length_8abf5 t0)) ∧ σ1 = σ) := by
  refine zmeth (cd := kJ0_length_8abf5) [] 1000 (Nat.le_of_ble_eq_true rfl) rfl okJ0_length_8abf5 (Nat.le_refl _) (Nat.le_of_ble_eq_true rfl) ?_
  refine zCl.use (c_J0_coder_7d493 t0 σ) (Nat.le_of_ble_eq_true rfl) ?_
  rintro _ σz ⟨rfl, hz⟩
  subst σz
  exact And.intro rfl (And.intro rfl ⟨by rw [f_J0_length_8abf5] <;> rfl, rfl⟩)
def f_J0_charAt_5068e (t0 : Nat) (x1 : Int32) : Int32 := f_J1_charAt_3b067 t0 x1
def p_J0_charAt_5068e (t0 : Nat) (x1 : Int32) (σ : zS) : Prop := p_J1_charAt_3b067 t0 x1 σ ∧ ((f_J1_charAt_3b067 t0 x1).toUInt32 % 65536).toInt32 = f_J1_charAt_3b067 t0 x1
set_option maxRecDepth 100000 in
set_option maxHeartbeats 1000000 in
theorem c_J0_charAt_5068e {cp : Nat → Bool} {nx : Nat} (t0 : Nat) (x1 : Int32) (σ : zS) (hp : p_J0_charAt_5068e t0 x1 σ) : zCl 5 cp nx cp nx 300 [.inr (30, t0, (1000010 + t0)), .inl x1] σ (fun v σ1 => v = some (.inl (f_J0_charAt_5068e t0 x1)) ∧ σ1 = σ) := by
  refine zmeth (cd := kJ0_charAt_5068e) [] 1000 (Nat.le_of_ble_eq_true rfl) rfl okJ0_charAt_5068e (Nat.le_refl _) (Nat.le_of_ble_eq_true rfl) ?_
  refine zCl.use (c_J0_isLatin1_aae02 t0 σ) (Nat.le_of_ble_eq_true rfl) ?_
  rintro _ σz ⟨rfl, hz⟩
  subst σz
  refine And.intro (fun (z : (1 : Int32) = 0) => absurd z (by decide)) (fun _ => ?_)
  refine zCl.use (c_J1_charAt_3b067 t0 x1 σ hp.1) (Nat.le_of_ble_eq_true rfl) ?_
  rintro _ σz ⟨rfl, hz⟩
  subst σz
  exact And.intro rfl (And.intro rfl (And.intro hp.2 ⟨by rw [f_J0_charAt_5068e] <;> rfl, rfl⟩))
def f_J1_indexOf_4cfef (t1 : Nat) (x2 : Int32) (x3 : Int32) (x4 : Int32) (N : Nat) (σ : zS) : Int32 := if (f_J1_canEncode_9a6ad x2) = 0 then (-1) else (if (if x3 < 0 then 0 else x3) < (if (Int32.ofNat (zslenL.getD t1 0)) < x4 then (Int32.ofNat (zslenL.getD t1 0)) else x4) then (f_J1_indexOfChar_4cfef t1 x2 (if x3 < 0 then 0 else x3) (if (Int32.ofNat (zslenL.getD t1 0)) < x4 then (Int32.ofNat (zslenL.getD t1 0)) else x4) N σ) else (-1))
def p_J1_indexOf_4cfef (t1 : Nat) (x2 : Int32) (x3 : Int32) (x4 : Int32) (N : Nat) (σ : zS) : Prop := ¬ (f_J1_canEncode_9a6ad x2) = 0 → ((if x3 < 0 then 0 else x3) < (if (Int32.ofNat (zslenL.getD t1 0)) < x4 then (Int32.ofNat (zslenL.getD t1 0)) else x4) → p_J1_indexOfChar_4cfef t1 x2 (if x3 < 0 then 0 else x3) (if (Int32.ofNat (zslenL.getD t1 0)) < x4 then (Int32.ofNat (zslenL.getD t1 0)) else x4) N σ)
set_option maxRecDepth 100000 in
set_option maxHeartbeats 1000000 in
theorem c_J1_indexOf_4cfef {cp : Nat → Bool} {nx : Nat} (t1 : Nat) (x2 : Int32) (x3 : Int32) (x4 : Int32) (N : Nat) (σ : zS) (hp : p_J1_indexOf_4cfef t1 x2 x3 x4 N σ) : zCl 2 cp nx cp nx 305 [.inr (27, (zslenL.getD t1 0), (1000040 + t1)), .inl x2, .inl x3, .inl x4] σ (fun v σ1 => v = some (.inl (f_J1_indexOf_4cfef t1 x2 x3 x4 N σ)) ∧ σ1 = σ) := by
  refine zmeth (cd := kJ1_indexOf_4cfef) [] 1000 (Nat.le_of_ble_eq_true rfl) rfl okJ1_indexOf_4cfef (Nat.le_refl _) (Nat.le_of_ble_eq_true rfl) ?_
  refine zCl.use (c_J1_canEncode_9a6ad x2 σ) (Nat.le_of_ble_eq_true rfl) ?_
  rintro _ σz ⟨rfl, hz⟩
  subst σz
  refine And.intro (fun (h1 : ¬ (f_J1_canEncode_9a6ad x2) = 0) => ?_) (fun (h1 : (f_J1_canEncode_9a6ad x2) = 0) => ?_)
  · refine And.intro (fun (h2 : (if x3 < 0 then 0 else x3) < (if (Int32.ofNat (zslenL.getD t1 0)) < x4 then (Int32.ofNat (zslenL.getD t1 0)) else x4)) => ?_) (fun (h2 : ¬ (if x3 < 0 then 0 else x3) < (if (Int32.ofNat (zslenL.getD t1 0)) < x4 then (Int32.ofNat (zslenL.getD t1 0)) else x4)) => ?_)
    · refine zCl.use (c_J1_indexOfChar_4cfef t1 x2 (if x3 < 0 then 0 else x3) (if (Int32.ofNat (zslenL.getD t1 0)) < x4 then (Int32.ofNat (zslenL.getD t1 0)) else x4) N σ ((hp h1) h2)) (Nat.le_of_ble_eq_true rfl) ?_
      rintro _ σz ⟨rfl, hz⟩
      subst σz
      exact And.intro rfl (And.intro rfl ⟨by rw [f_J1_indexOf_4cfef, if_neg h1, if_pos h2] <;> rfl, rfl⟩)
    · exact And.intro rfl (And.intro rfl ⟨by rw [f_J1_indexOf_4cfef, if_neg h1, if_neg h2] <;> rfl, rfl⟩)
  · exact And.intro rfl (And.intro rfl ⟨by rw [f_J1_indexOf_4cfef, if_pos h1] <;> rfl, rfl⟩)
def u_X0_compute_1 (o : Nat) (x1 : Int32) (x2 : Int32) (σ : zS) : zS := s_X0_push o x2 σ
def u_X0_compute_2 (o : Nat) (x1 : Int32) (x2 : Int32) (σ : zS) : zS := s_X0_push o (f_X0_parameter o (σ.1 o 0) x2 σ) σ
def u_X0_compute_3 (o : Nat) (x1 : Int32) (x2 : Int32) (σ : zS) : zS := (r_X0_pop o σ).2
def u_X0_compute_4 (o : Nat) (x1 : Int32) (x2 : Int32) (σ : zS) : zS := s_X0_push o (-((r_X0_pop o σ).1)) (u_X0_compute_3 o x1 x2 σ)
def u_X0_compute_5 (o : Nat) (x1 : Int32) (x2 : Int32) (σ : zS) : zS := zuI σ o 1 x2
def u_X0_compute_6 (o : Nat) (x1 : Int32) (x2 : Int32) (σ : zS) : zS := s_X0_computeOfTwo o x1 x2 σ
def s_X0_compute (o : Nat) (x1 : Int32) (x2 : Int32) (σ : zS) : zS := if x1 = 0 then (u_X0_compute_1 o x1 x2 σ) else (if x1 = 1 then (u_X0_compute_2 o x1 x2 σ) else (if x1 = 2 then (u_X0_compute_4 o x1 x2 σ) else (if x1 = 11 then (u_X0_compute_5 o x1 x2 σ) else (u_X0_compute_6 o x1 x2 σ))))
def p_X0_compute (o : Nat) (x1 : Int32) (x2 : Int32) (σ : zS) : Prop := (x1 = 0 → p_X0_push o x2 σ) ∧ (¬ x1 = 0 → ((x1 = 1 → (p_X0_parameter o (σ.1 o 0) x2 σ ∧ p_X0_push o (f_X0_parameter o (σ.1 o 0) x2 σ) σ)) ∧ (¬ x1 = 1 → ((x1 = 2 → (p_X0_pop o σ ∧ p_X0_push o (-((r_X0_pop o σ).1)) (u_X0_compute_3 o x1 x2 σ))) ∧ (¬ x1 = 2 → (¬ x1 = 11 → p_X0_computeOfTwo o x1 x2 σ))))))
set_option maxRecDepth 100000 in
set_option maxHeartbeats 1000000 in
theorem c_X0_compute {nx : Nat} (o : Nat) (x1 : Int32) (x2 : Int32) (σ : zS) (hp : p_X0_compute o x1 x2 σ) : zCl 3 zall nx zall nx 10 [.inr (0, 9, o), .inl x1, .inl x2] σ (fun v σ1 => v = none ∧ σ1 = s_X0_compute o x1 x2 σ) := by
  refine zmeth (cd := kX0_compute) [] 1000 (Nat.le_of_ble_eq_true rfl) rfl okX0_compute (Nat.le_refl _) (Nat.le_of_ble_eq_true rfl) ?_
  refine And.intro (fun (h1 : x1 = 0) => ?_) (fun (h1 : ¬ x1 = 0) => ?_)
  · refine zCl.use (c_X0_push o x2 σ (hp.1 h1)) (Nat.le_of_ble_eq_true rfl) ?_
    rintro _ σz ⟨rfl, hz⟩
    subst σz
    exact And.intro rfl (And.intro rfl ⟨rfl, by rw [s_X0_compute, if_pos h1] <;> rfl⟩)
  · refine And.intro (fun (h2 : x1 = 1) => ?_) (fun (h2 : ¬ x1 = 1) => ?_)
    · refine zCl.use (c_X0_parameter o (σ.1 o 0) x2 σ ((hp.2 h1).1 h2).1) (Nat.le_of_ble_eq_true rfl) ?_
      rintro _ σz ⟨rfl, hz⟩
      subst σz
      refine zCl.use (c_X0_push o (f_X0_parameter o (σ.1 o 0) x2 σ) σ ((hp.2 h1).1 h2).2) (Nat.le_of_ble_eq_true rfl) ?_
      rintro _ σz ⟨rfl, hz⟩
      subst σz
      exact And.intro rfl (And.intro rfl ⟨rfl, by rw [s_X0_compute, if_neg h1, if_pos h2] <;> rfl⟩)
    · refine And.intro (fun (h3 : x1 = 2) => ?_) (fun (h3 : ¬ x1 = 2) => ?_)
      · refine zCl.use (c_X0_pop o σ (((hp.2 h1).2 h2).1 h3).1) (Nat.le_of_ble_eq_true rfl) ?_
        rintro _ σz ⟨rfl, hz⟩
        subst σz
        refine zCl.use (c_X0_push o (-((r_X0_pop o σ).1)) (u_X0_compute_3 o x1 x2 σ) (((hp.2 h1).2 h2).1 h3).2) (Nat.le_of_ble_eq_true rfl) ?_
        rintro _ σz ⟨rfl, hz⟩
        subst σz
        exact And.intro rfl (And.intro rfl ⟨rfl, by rw [s_X0_compute, if_neg h1, if_neg h2, if_pos h3] <;> rfl⟩)
      · refine And.intro (fun (h4 : x1 = 11) => ?_) (fun (h4 : ¬ x1 = 11) => ?_)
        · exact And.intro rfl (And.intro rfl ⟨rfl, by rw [s_X0_compute, if_neg h1, if_neg h2, if_neg h3, if_pos h4] <;> rfl⟩)
        · refine zCl.use (c_X0_computeOfTwo o x1 x2 σ ((((hp.2 h1).2 h2).2 h3) h4)) (Nat.le_of_ble_eq_true rfl) ?_
          rintro _ σz ⟨rfl, hz⟩
          subst σz
          exact And.intro rfl (And.intro rfl ⟨rfl, by rw [s_X0_compute, if_neg h1, if_neg h2, if_neg h3, if_neg h4] <;> rfl⟩)
def u_X1_startFrom_1 (q1 : Nat) (N : Nat) (σ : zS) : zS := zuI σ 30 1 0
def u_X1_startFrom_2 (q1 : Nat) (N : Nat) (σ : zS) : zS := zuI (u_X1_startFrom_1 q1 N σ) 30 2 0
def u_X1_startFrom_3 (q1 : Nat) (N : Nat) (σ : zS) : zS := s_X4_copyFrom (f_X1_now (u_X1_startFrom_2 q1 N σ)) q1 N (u_X1_startFrom_2 q1 N σ)
def s_X1_startFrom (q1 : Nat) (N : Nat) (σ : zS) : zS := (u_X1_startFrom_3 q1 N σ)
def p_X1_startFrom (q1 : Nat) (N : Nat) (σ : zS) : Prop := p_X1_now (u_X1_startFrom_2 q1 N σ) ∧ p_X4_copyFrom (f_X1_now (u_X1_startFrom_2 q1 N σ)) q1 N (u_X1_startFrom_2 q1 N σ)
set_option maxRecDepth 100000 in
set_option maxHeartbeats 1000000 in
theorem c_X1_startFrom {nx : Nat} (q1 : Nat) (N : Nat) (σ : zS) (hp : p_X1_startFrom q1 N σ) : zCl 4 zall nx zall nx 16 [.inr (1, 3, 30), .inr (4, 17, q1)] σ (fun v σ1 => v = none ∧ σ1 = s_X1_startFrom q1 N σ) := by
  refine zmeth (cd := kX1_startFrom) [] 1000 (Nat.le_of_ble_eq_true rfl) rfl okX1_startFrom (Nat.le_refl _) (Nat.le_of_ble_eq_true rfl) ?_
  refine zCl.use (c_X1_now (u_X1_startFrom_2 q1 N σ) hp.1) (Nat.le_of_ble_eq_true rfl) ?_
  rintro _ σz ⟨rfl, hz⟩
  subst σz
  refine zCl.use (c_X4_copyFrom (f_X1_now (u_X1_startFrom_2 q1 N σ)) q1 N (u_X1_startFrom_2 q1 N σ) hp.2) (Nat.le_of_ble_eq_true rfl) ?_
  rintro _ σz ⟨rfl, hz⟩
  subst σz
  exact And.intro rfl (And.intro rfl ⟨rfl, by rw [s_X1_startFrom] <;> rfl⟩)
