/-! printed by wip/whole/dec2.py -/
def f_X9_isSign (x1 : Int32) : Int32 := if x1 = 59 then 1 else (if x1 = 61 then 1 else (if x1 = 40 then 1 else (if x1 = 41 then 1 else (if x1 = 44 then 1 else (if x1 = 43 then 1 else (if x1 = 45 then 1 else (if x1 = 42 then 1 else (if x1 = 47 then 1 else (if x1 = 37 then 1 else (if x1 = 60 then 1 else (if x1 = 62 then 1 else 0)))))))))))
set_option maxRecDepth 100000 in
set_option maxHeartbeats 1000000 in
theorem c_X9_isSign {cp : Nat → Bool} {nx : Nat} (x1 : Int32) (σ : zS) : zCl 1 cp nx cp nx 161 [.inl x1] σ (fun v σ1 => v = some (.inl (f_X9_isSign x1)) ∧ σ1 = σ) := by
  refine zmeth (cd := kX9_isSign) [] 1000 (Nat.le_of_ble_eq_true rfl) rfl okX9_isSign (Nat.le_refl _) (Nat.le_of_ble_eq_true rfl) ?_
  refine And.intro (fun (h1 : x1 = 59) => ?_) (fun (h1 : ¬ x1 = 59) => ?_)
  · exact And.intro rfl (And.intro rfl (And.intro (Or.inr rfl) ⟨by rw [f_X9_isSign, if_pos h1] <;> rfl, rfl⟩))
  · refine And.intro (fun (h2 : x1 = 61) => ?_) (fun (h2 : ¬ x1 = 61) => ?_)
    · exact And.intro rfl (And.intro rfl (And.intro (Or.inr rfl) ⟨by rw [f_X9_isSign, if_neg h1, if_pos h2] <;> rfl, rfl⟩))
    · refine And.intro (fun (h3 : x1 = 40) => ?_) (fun (h3 : ¬ x1 = 40) => ?_)
      · exact And.intro rfl (And.intro rfl (And.intro (Or.inr rfl) ⟨by rw [f_X9_isSign, if_neg h1, if_neg h2, if_pos h3] <;> rfl, rfl⟩))
      · refine And.intro (fun (h4 : x1 = 41) => ?_) (fun (h4 : ¬ x1 = 41) => ?_)
        · exact And.intro rfl (And.intro rfl (And.intro (Or.inr rfl) ⟨by rw [f_X9_isSign, if_neg h1, if_neg h2, if_neg h3, if_pos h4] <;> rfl, rfl⟩))
        · refine And.intro (fun (h5 : x1 = 44) => ?_) (fun (h5 : ¬ x1 = 44) => ?_)
          · exact And.intro rfl (And.intro rfl (And.intro (Or.inr rfl) ⟨by rw [f_X9_isSign, if_neg h1, if_neg h2, if_neg h3, if_neg h4, if_pos h5] <;> rfl, rfl⟩))
          · refine And.intro (fun (h6 : x1 = 43) => ?_) (fun (h6 : ¬ x1 = 43) => ?_)
            · exact And.intro rfl (And.intro rfl (And.intro (Or.inr rfl) ⟨by rw [f_X9_isSign, if_neg h1, if_neg h2, if_neg h3, if_neg h4, if_neg h5, if_pos h6] <;> rfl, rfl⟩))
            · refine And.intro (fun (h7 : x1 = 45) => ?_) (fun (h7 : ¬ x1 = 45) => ?_)
              · exact And.intro rfl (And.intro rfl (And.intro (Or.inr rfl) ⟨by rw [f_X9_isSign, if_neg h1, if_neg h2, if_neg h3, if_neg h4, if_neg h5, if_neg h6, if_pos h7] <;> rfl, rfl⟩))
              · refine And.intro (fun (h8 : x1 = 42) => ?_) (fun (h8 : ¬ x1 = 42) => ?_)
                · exact And.intro rfl (And.intro rfl (And.intro (Or.inr rfl) ⟨by rw [f_X9_isSign, if_neg h1, if_neg h2, if_neg h3, if_neg h4, if_neg h5, if_neg h6, if_neg h7, if_pos h8] <;> rfl, rfl⟩))
                · refine And.intro (fun (h9 : x1 = 47) => ?_) (fun (h9 : ¬ x1 = 47) => ?_)
                  · exact And.intro rfl (And.intro rfl (And.intro (Or.inr rfl) ⟨by rw [f_X9_isSign, if_neg h1, if_neg h2, if_neg h3, if_neg h4, if_neg h5, if_neg h6, if_neg h7, if_neg h8, if_pos h9] <;> rfl, rfl⟩))
                  · refine And.intro (fun (h10 : x1 = 37) => ?_) (fun (h10 : ¬ x1 = 37) => ?_)
                    · exact And.intro rfl (And.intro rfl (And.intro (Or.inr rfl) ⟨by rw [f_X9_isSign, if_neg h1, if_neg h2, if_neg h3, if_neg h4, if_neg h5, if_neg h6, if_neg h7, if_neg h8, if_neg h9, if_pos h10] <;> rfl, rfl⟩))
                    · refine And.intro (fun (h11 : x1 = 60) => ?_) (fun (h11 : ¬ x1 = 60) => ?_)
                      · exact And.intro rfl (And.intro rfl (And.intro (Or.inr rfl) ⟨by rw [f_X9_isSign, if_neg h1, if_neg h2, if_neg h3, if_neg h4, if_neg h5, if_neg h6, if_neg h7, if_neg h8, if_neg h9, if_neg h10, if_pos h11] <;> rfl, rfl⟩))
                      · refine And.intro (fun (h12 : ¬ x1 = 62) => ?_) (fun (h12 : x1 = 62) => ?_)
                        · exact And.intro rfl (And.intro rfl (And.intro (Or.inl rfl) ⟨by rw [f_X9_isSign, if_neg h1, if_neg h2, if_neg h3, if_neg h4, if_neg h5, if_neg h6, if_neg h7, if_neg h8, if_neg h9, if_neg h10, if_neg h11, if_neg h12] <;> rfl, rfl⟩))
                        · exact And.intro rfl (And.intro rfl (And.intro (Or.inr rfl) ⟨by rw [f_X9_isSign, if_neg h1, if_neg h2, if_neg h3, if_neg h4, if_neg h5, if_neg h6, if_neg h7, if_neg h8, if_neg h9, if_neg h10, if_neg h11, if_pos h12] <;> rfl, rfl⟩))
theorem b_X9_isSign {x1 : Int32} : f_X9_isSign x1 = 0 ∨ f_X9_isSign x1 = 1 := by
  unfold f_X9_isSign
  (repeat' split) <;> first | exact Or.inl rfl | exact Or.inr rfl
def f_X9_isBlank (x1 : Int32) (σ : zS) : Int32 := if (σ.1 468 19) ≤ x1 then 0 else (if (σ.1 485 (x1).toNatClampNeg) = 32 then 1 else (if (σ.1 485 (x1).toNatClampNeg) = 10 then 1 else 0))
def p_X9_isBlank (x1 : Int32) (σ : zS) : Prop := ¬ (σ.1 468 19) ≤ x1 → vp_in x1 1000
set_option maxRecDepth 100000 in
set_option maxHeartbeats 1000000 in
theorem c_X9_isBlank {nx : Nat} (x1 : Int32) (σ : zS) (hp : p_X9_isBlank x1 σ) : zCl 1 zall nx zall nx 162 [.inr (9, 57, 468), .inl x1] σ (fun v σ1 => v = some (.inl (f_X9_isBlank x1 σ)) ∧ σ1 = σ) := by
  refine zmeth (cd := kX9_isBlank) [] 1000 (Nat.le_of_ble_eq_true rfl) rfl okX9_isBlank (Nat.le_refl _) (Nat.le_of_ble_eq_true rfl) ?_
  refine And.intro (fun (h1 : (σ.1 468 19) ≤ x1) => ?_) (fun (h1 : ¬ (σ.1 468 19) ≤ x1) => ?_)
  · exact And.intro rfl (And.intro rfl (And.intro (Or.inl rfl) ⟨by rw [f_X9_isBlank, if_pos h1] <;> rfl, rfl⟩))
  · refine And.intro (hp h1) ?_
    refine And.intro (fun (h2 : (σ.1 485 (x1).toNatClampNeg) = 32) => ?_) (fun (h2 : ¬ (σ.1 485 (x1).toNatClampNeg) = 32) => ?_)
    · exact And.intro rfl (And.intro rfl (And.intro (Or.inr rfl) ⟨by rw [f_X9_isBlank, if_neg h1, if_pos h2] <;> rfl, rfl⟩))
    · refine And.intro (hp h1) ?_
      refine And.intro (fun (h3 : ¬ (σ.1 485 (x1).toNatClampNeg) = 10) => ?_) (fun (h3 : (σ.1 485 (x1).toNatClampNeg) = 10) => ?_)
      · exact And.intro rfl (And.intro rfl (And.intro (Or.inl rfl) ⟨by rw [f_X9_isBlank, if_neg h1, if_neg h2, if_neg h3] <;> rfl, rfl⟩))
      · exact And.intro rfl (And.intro rfl (And.intro (Or.inr rfl) ⟨by rw [f_X9_isBlank, if_neg h1, if_neg h2, if_pos h3] <;> rfl, rfl⟩))
theorem b_X9_isBlank {x1 : Int32} {σ : zS} : f_X9_isBlank x1 σ = 0 ∨ f_X9_isBlank x1 σ = 1 := by
  unfold f_X9_isBlank
  (repeat' split) <;> first | exact Or.inl rfl | exact Or.inr rfl
def l_X9_isSame (N : Nat) : Nat → Int32 → Int32 → Int32 → zS → Int32
  | 0, _, _, _, σ => 0
  | n + 1, v1, v2, v3, σ => if (v2 - v1) ≤ v3 then 1 else (if (σ.1 486 (v1 + v3).toNatClampNeg) = (σ.1 485 ((σ.1 468 21) + v3).toNatClampNeg) then (l_X9_isSame N n v1 v2 (v3 + 1) σ) else 0)
def q_X9_isSame (N : Nat) : Nat → Int32 → Int32 → Int32 → zS → Prop
  | 0, _, _, _, _ => False
  | n + 1, v1, v2, v3, σ => ¬ (v2 - v1) ≤ v3 → (vp_in (v1 + v3) 78 ∧ (vp_in ((σ.1 468 21) + v3) 1000 ∧ ((σ.1 486 (v1 + v3).toNatClampNeg) = (σ.1 485 ((σ.1 468 21) + v3).toNatClampNeg) → q_X9_isSame N n v1 v2 (v3 + 1) σ)))
set_option maxRecDepth 100000 in
set_option maxHeartbeats 1000000 in
theorem w_X9_isSame {nx : Nat} (N : Nat) : ∀ n : Nat, (∀ (v1 : Int32) (v2 : Int32) (v3 : Int32) (σ : zS), q_X9_isSame N n v1 v2 v3 σ → zWp 1 zall nx 165 (fun v σ1 => v = some (.inl (l_X9_isSame N n v1 v2 v3 σ)) ∧ σ1 = σ) zall nx 19 [some (.inr (9, 57, 468)), some (.inl v1), some (.inl v2), some (.inl v3)] [] σ) := by
  intro n
  induction n with
  | zero => exact fun _ _ _ _ h => h.elim
  | succ n ih =>
    intro v1 v2 v3 σ hp
    rw [q_X9_isSame] at hp
    refine zvc_sound (cd := kX9_isSame) (cs := [19]) rfl okX9_isSame 1000 _ _ 19 (zseek kX9_isSame 19) _ _ _ zseek_sub ?_
    refine And.intro (fun (h1 : (v2 - v1) ≤ v3) => ?_) (fun (h1 : ¬ (v2 - v1) ≤ v3) => ?_)
    · exact And.intro rfl (And.intro rfl (And.intro (Or.inr rfl) ⟨by rw [l_X9_isSame, if_pos h1] <;> rfl, rfl⟩))
    · refine And.intro (hp h1).1 ?_
      refine And.intro (hp h1).2.1 ?_
      refine And.intro (fun (h2 : (σ.1 486 (v1 + v3).toNatClampNeg) = (σ.1 485 ((σ.1 468 21) + v3).toNatClampNeg)) => ?_) (fun (h2 : ¬ (σ.1 486 (v1 + v3).toNatClampNeg) = (σ.1 485 ((σ.1 468 21) + v3).toNatClampNeg)) => ?_)
      · refine zWp.use (ih v1 v2 (v3 + 1) σ ((hp h1).2.2 h2)) (And.intro rfl (And.intro rfl (And.intro rfl (And.intro rfl trivial)))) (fun vy σy hy => ?_)
        rw [l_X9_isSame, if_neg h1, if_pos h2]; exact hy
      · exact And.intro rfl (And.intro rfl (And.intro (Or.inl rfl) ⟨by rw [l_X9_isSame, if_neg h1, if_neg h2] <;> rfl, rfl⟩))
def f_X9_isSame (x1 : Int32) (x2 : Int32) (N : Nat) (σ : zS) : Int32 := if (x2 - x1) = ((σ.1 468 20) - (σ.1 468 21)) then (l_X9_isSame N N x1 x2 0 σ) else 0
def p_X9_isSame (x1 : Int32) (x2 : Int32) (N : Nat) (σ : zS) : Prop := (x2 - x1) = ((σ.1 468 20) - (σ.1 468 21)) → q_X9_isSame N N x1 x2 0 σ
set_option maxRecDepth 100000 in
set_option maxHeartbeats 1000000 in
theorem c_X9_isSame {nx : Nat} (x1 : Int32) (x2 : Int32) (N : Nat) (σ : zS) (hp : p_X9_isSame x1 x2 N σ) : zCl 1 zall nx zall nx 165 [.inr (9, 57, 468), .inl x1, .inl x2] σ (fun v σ1 => v = some (.inl (f_X9_isSame x1 x2 N σ)) ∧ σ1 = σ) := by
  refine zmeth (cd := kX9_isSame) [19] 1000 (Nat.le_of_ble_eq_true rfl) rfl okX9_isSame (Nat.le_refl _) (Nat.le_of_ble_eq_true rfl) ?_
  refine And.intro (fun (h1 : (x2 - x1) = ((σ.1 468 20) - (σ.1 468 21))) => ?_) (fun (h1 : ¬ (x2 - x1) = ((σ.1 468 20) - (σ.1 468 21))) => ?_)
  · refine zWp.use ((w_X9_isSame N N) x1 x2 0 σ (hp h1)) (And.intro rfl (And.intro rfl (And.intro rfl (And.intro rfl trivial)))) (fun vy σy hy => ?_)
    rw [f_X9_isSame, if_pos h1]; exact hy
  · exact And.intro rfl (And.intro rfl (And.intro (Or.inl rfl) ⟨by rw [f_X9_isSame, if_neg h1] <;> rfl, rfl⟩))
def u_X9_scanNumber_h0_1 (N : Nat) (σ : zS) : zS := zuI σ 468 23 (((10 * (σ.1 468 23)) + (f_X9_signAt (σ.1 468 20) σ)) - 48)
def u_X9_scanNumber_h0_2 (N : Nat) (σ : zS) : zS := zuI (u_X9_scanNumber_h0_1 N σ) 468 20 (((u_X9_scanNumber_h0_1 N σ).1 468 20) + 1)
def u_X9_scanNumber_h0_3 (N : Nat) (σ : zS) : zS := zuI σ 468 23 (σ.1 468 23)
def u_X9_scanNumber_h0_4 (N : Nat) (σ : zS) : zS := zuI (u_X9_scanNumber_h0_3 N σ) 468 20 (((u_X9_scanNumber_h0_3 N σ).1 468 20) + 1)
def l_X9_scanNumber (N : Nat) : Nat → zS → zS
  | 0, σ => σ
  | n + 1, σ => if (f_X9_isDigit (f_X9_signAt (σ.1 468 20) σ)) = 0 then σ else (if (σ.1 468 23) ≤ 9999 then (l_X9_scanNumber N n (u_X9_scanNumber_h0_2 N σ)) else (l_X9_scanNumber N n (u_X9_scanNumber_h0_4 N σ)))
def q_X9_scanNumber (N : Nat) : Nat → zS → Prop
  | 0, _ => False
  | n + 1, σ => p_X9_signAt (σ.1 468 20) σ ∧ (¬ (f_X9_isDigit (f_X9_signAt (σ.1 468 20) σ)) = 0 → (((σ.1 468 23) ≤ 9999 → (p_X9_signAt (σ.1 468 20) σ ∧ q_X9_scanNumber N n (u_X9_scanNumber_h0_2 N σ))) ∧ (¬ (σ.1 468 23) ≤ 9999 → q_X9_scanNumber N n (u_X9_scanNumber_h0_4 N σ))))
set_option maxRecDepth 100000 in
set_option maxHeartbeats 1000000 in
theorem w_X9_scanNumber {nx : Nat} (N : Nat) : ∀ n : Nat, (∀ (σ : zS), q_X9_scanNumber N n σ → zWp 2 zall nx 166 (fun v σ1 => v = none ∧ σ1 = l_X9_scanNumber N n σ) zall nx 18 [some (.inr (9, 57, 468))] [] σ) := by
  intro n
  induction n with
  | zero => exact fun _ h => h.elim
  | succ n ih =>
    intro σ hp
    rw [q_X9_scanNumber] at hp
    refine zvc_sound (cd := kX9_scanNumber) (cs := [18]) rfl okX9_scanNumber 1000 _ _ 18 (zseek kX9_scanNumber 18) _ _ _ zseek_sub ?_
    refine zCl.use (c_X9_signAt (σ.1 468 20) σ hp.1) (Nat.le_of_ble_eq_true rfl) ?_
    rintro _ σz ⟨rfl, hz⟩
    subst σz
    refine zCl.use (c_X9_isDigit (f_X9_signAt (σ.1 468 20) σ) σ) (Nat.le_of_ble_eq_true rfl) ?_
    rintro _ σz ⟨rfl, hz⟩
    subst σz
    refine And.intro (fun (h1 : (f_X9_isDigit (f_X9_signAt (σ.1 468 20) σ)) = 0) => ?_) (fun (h1 : ¬ (f_X9_isDigit (f_X9_signAt (σ.1 468 20) σ)) = 0) => ?_)
    · exact And.intro rfl (And.intro rfl ⟨rfl, by rw [l_X9_scanNumber, if_pos h1] <;> rfl⟩)
    · refine And.intro (fun (h2 : (σ.1 468 23) ≤ 9999) => ?_) (fun (h2 : ¬ (σ.1 468 23) ≤ 9999) => ?_)
      · refine zCl.use (c_X9_signAt (σ.1 468 20) σ ((hp.2 h1).1 h2).1) (Nat.le_of_ble_eq_true rfl) ?_
        rintro _ σz ⟨rfl, hz⟩
        subst σz
        refine zWp.use (ih (u_X9_scanNumber_h0_2 N σ) ((hp.2 h1).1 h2).2) (And.intro rfl trivial) (fun vy σy hy => ?_)
        rw [l_X9_scanNumber, if_neg h1, if_pos h2]; exact hy
      · refine zWp.use (ih (u_X9_scanNumber_h0_4 N σ) ((hp.2 h1).2 h2)) (And.intro rfl trivial) (fun vy σy hy => ?_)
        rw [l_X9_scanNumber, if_neg h1, if_neg h2]; exact hy
def u_X9_scanNumber_1 (N : Nat) (σ : zS) : zS := zuI σ 468 22 3
def u_X9_scanNumber_2 (N : Nat) (σ : zS) : zS := zuI (u_X9_scanNumber_1 N σ) 468 23 0
def u_X9_scanNumber_3 (N : Nat) (σ : zS) : zS := zuI (u_X9_scanNumber_2 N σ) 468 20 ((u_X9_scanNumber_2 N σ).1 468 21)
def s_X9_scanNumber (N : Nat) (σ : zS) : zS := l_X9_scanNumber N N (u_X9_scanNumber_3 N σ)
def p_X9_scanNumber (N : Nat) (σ : zS) : Prop := q_X9_scanNumber N N (u_X9_scanNumber_3 N σ)
set_option maxRecDepth 100000 in
set_option maxHeartbeats 1000000 in
theorem c_X9_scanNumber {nx : Nat} (N : Nat) (σ : zS) (hp : p_X9_scanNumber N σ) : zCl 2 zall nx zall nx 166 [.inr (9, 57, 468)] σ (fun v σ1 => v = none ∧ σ1 = s_X9_scanNumber N σ) := by
  refine zmeth (cd := kX9_scanNumber) [18] 1000 (Nat.le_of_ble_eq_true rfl) rfl okX9_scanNumber (Nat.le_refl _) (Nat.le_of_ble_eq_true rfl) ?_
  refine zWp.use ((w_X9_scanNumber N N) (u_X9_scanNumber_3 N σ) hp) (And.intro rfl trivial) (fun vy σy hy => ?_)
  rw [s_X9_scanNumber]; exact hy
def u_X9_fail_1 (x1 : Int32) (σ : zS) : zS := zuI σ 468 25 x1
def u_X9_fail_2 (x1 : Int32) (σ : zS) : zS := zuI (u_X9_fail_1 x1 σ) 468 26 ((u_X9_fail_1 x1 σ).1 468 21)
def s_X9_fail (x1 : Int32) (σ : zS) : zS := if (σ.1 468 25) ≤ 0 then (u_X9_fail_2 x1 σ) else σ
set_option maxRecDepth 100000 in
set_option maxHeartbeats 1000000 in
theorem c_X9_fail {cp : Nat → Bool} {nx : Nat} (x1 : Int32) (σ : zS) : zCl 1 cp nx cp nx 167 [.inr (9, 57, 468), .inl x1] σ (fun v σ1 => v = none ∧ σ1 = s_X9_fail x1 σ) := by
  refine zmeth (cd := kX9_fail) [] 1000 (Nat.le_of_ble_eq_true rfl) rfl okX9_fail (Nat.le_refl _) (Nat.le_of_ble_eq_true rfl) ?_
  refine And.intro (fun (h1 : (σ.1 468 25) ≤ 0) => ?_) (fun (h1 : ¬ (σ.1 468 25) ≤ 0) => ?_)
  · exact And.intro rfl (And.intro rfl ⟨rfl, by rw [s_X9_fail, if_pos h1] <;> rfl⟩)
  · exact And.intro rfl (And.intro rfl ⟨rfl, by rw [s_X9_fail, if_neg h1] <;> rfl⟩)
def f_X9_isAt (x1 : Int32) (σ : zS) : Int32 := if (σ.1 468 25) = 0 then (if (σ.1 468 22) = 4 then (if (f_X9_signAt (σ.1 468 21) σ) = x1 then 1 else 0) else 0) else 0
def p_X9_isAt (x1 : Int32) (σ : zS) : Prop := (σ.1 468 25) = 0 → ((σ.1 468 22) = 4 → p_X9_signAt (σ.1 468 21) σ)
set_option maxRecDepth 100000 in
set_option maxHeartbeats 1000000 in
theorem c_X9_isAt {nx : Nat} (x1 : Int32) (σ : zS) (hp : p_X9_isAt x1 σ) : zCl 2 zall nx zall nx 168 [.inr (9, 57, 468), .inl x1] σ (fun v σ1 => v = some (.inl (f_X9_isAt x1 σ)) ∧ σ1 = σ) := by
  refine zmeth (cd := kX9_isAt) [] 1000 (Nat.le_of_ble_eq_true rfl) rfl okX9_isAt (Nat.le_refl _) (Nat.le_of_ble_eq_true rfl) ?_
  refine And.intro (fun (h1 : ¬ (σ.1 468 25) = 0) => ?_) (fun (h1 : (σ.1 468 25) = 0) => ?_)
  · exact And.intro rfl (And.intro rfl (And.intro (Or.inl rfl) ⟨by rw [f_X9_isAt, if_neg h1] <;> rfl, rfl⟩))
  · refine And.intro (fun (h2 : ¬ (σ.1 468 22) = 4) => ?_) (fun (h2 : (σ.1 468 22) = 4) => ?_)
    · exact And.intro rfl (And.intro rfl (And.intro (Or.inl rfl) ⟨by rw [f_X9_isAt, if_pos h1, if_neg h2] <;> rfl, rfl⟩))
    · refine zCl.use (c_X9_signAt (σ.1 468 21) σ ((hp h1) h2)) (Nat.le_of_ble_eq_true rfl) ?_
      rintro _ σz ⟨rfl, hz⟩
      subst σz
      refine And.intro (fun (h3 : ¬ (f_X9_signAt (σ.1 468 21) σ) = x1) => ?_) (fun (h3 : (f_X9_signAt (σ.1 468 21) σ) = x1) => ?_)
      · exact And.intro rfl (And.intro rfl (And.intro (Or.inl rfl) ⟨by rw [f_X9_isAt, if_pos h1, if_pos h2, if_neg h3] <;> rfl, rfl⟩))
      · exact And.intro rfl (And.intro rfl (And.intro (Or.inr rfl) ⟨by rw [f_X9_isAt, if_pos h1, if_pos h2, if_pos h3] <;> rfl, rfl⟩))
theorem b_X9_isAt {x1 : Int32} {σ : zS} : f_X9_isAt x1 σ = 0 ∨ f_X9_isAt x1 σ = 1 := by
  unfold f_X9_isAt
  (repeat' split) <;> first | exact Or.inl rfl | exact Or.inr rfl
def f_X9_isWord (x1 : Int32) (σ : zS) : Int32 := if (σ.1 468 25) = 0 then (if (σ.1 468 22) = 2 then (if (σ.1 468 24) = x1 then 1 else 0) else 0) else 0
set_option maxRecDepth 100000 in
set_option maxHeartbeats 1000000 in
theorem c_X9_isWord {cp : Nat → Bool} {nx : Nat} (x1 : Int32) (σ : zS) : zCl 1 cp nx cp nx 169 [.inr (9, 57, 468), .inl x1] σ (fun v σ1 => v = some (.inl (f_X9_isWord x1 σ)) ∧ σ1 = σ) := by
  refine zmeth (cd := kX9_isWord) [] 1000 (Nat.le_of_ble_eq_true rfl) rfl okX9_isWord (Nat.le_refl _) (Nat.le_of_ble_eq_true rfl) ?_
  refine And.intro (fun (h1 : ¬ (σ.1 468 25) = 0) => ?_) (fun (h1 : (σ.1 468 25) = 0) => ?_)
  · exact And.intro rfl (And.intro rfl (And.intro (Or.inl rfl) ⟨by rw [f_X9_isWord, if_neg h1] <;> rfl, rfl⟩))
  · refine And.intro (fun (h2 : ¬ (σ.1 468 22) = 2) => ?_) (fun (h2 : (σ.1 468 22) = 2) => ?_)
    · exact And.intro rfl (And.intro rfl (And.intro (Or.inl rfl) ⟨by rw [f_X9_isWord, if_pos h1, if_neg h2] <;> rfl, rfl⟩))
    · refine And.intro (fun (h3 : ¬ (σ.1 468 24) = x1) => ?_) (fun (h3 : (σ.1 468 24) = x1) => ?_)
      · exact And.intro rfl (And.intro rfl (And.intro (Or.inl rfl) ⟨by rw [f_X9_isWord, if_pos h1, if_pos h2, if_neg h3] <;> rfl, rfl⟩))
      · exact And.intro rfl (And.intro rfl (And.intro (Or.inr rfl) ⟨by rw [f_X9_isWord, if_pos h1, if_pos h2, if_pos h3] <;> rfl, rfl⟩))
theorem b_X9_isWord {x1 : Int32} {σ : zS} : f_X9_isWord x1 σ = 0 ∨ f_X9_isWord x1 σ = 1 := by
  unfold f_X9_isWord
  (repeat' split) <;> first | exact Or.inl rfl | exact Or.inr rfl
def f_X9_isName (σ : zS) : Int32 := if (σ.1 468 25) = 0 then (if (σ.1 468 22) = 2 then (if (σ.1 468 24) = (-1) then 1 else 0) else 0) else 0
set_option maxRecDepth 100000 in
set_option maxHeartbeats 1000000 in
theorem c_X9_isName {cp : Nat → Bool} {nx : Nat} (σ : zS) : zCl 1 cp nx cp nx 170 [.inr (9, 57, 468)] σ (fun v σ1 => v = some (.inl (f_X9_isName σ)) ∧ σ1 = σ) := by
  refine zmeth (cd := kX9_isName) [] 1000 (Nat.le_of_ble_eq_true rfl) rfl okX9_isName (Nat.le_refl _) (Nat.le_of_ble_eq_true rfl) ?_
  refine And.intro (fun (h1 : ¬ (σ.1 468 25) = 0) => ?_) (fun (h1 : (σ.1 468 25) = 0) => ?_)
  · exact And.intro rfl (And.intro rfl (And.intro (Or.inl rfl) ⟨by rw [f_X9_isName, if_neg h1] <;> rfl, rfl⟩))
  · refine And.intro (fun (h2 : ¬ (σ.1 468 22) = 2) => ?_) (fun (h2 : (σ.1 468 22) = 2) => ?_)
    · exact And.intro rfl (And.intro rfl (And.intro (Or.inl rfl) ⟨by rw [f_X9_isName, if_pos h1, if_neg h2] <;> rfl, rfl⟩))
    · refine And.intro (fun (h3 : ¬ (σ.1 468 24) = (-1)) => ?_) (fun (h3 : (σ.1 468 24) = (-1)) => ?_)
      · exact And.intro rfl (And.intro rfl (And.intro (Or.inl rfl) ⟨by rw [f_X9_isName, if_pos h1, if_pos h2, if_neg h3] <;> rfl, rfl⟩))
      · exact And.intro rfl (And.intro rfl (And.intro (Or.inr rfl) ⟨by rw [f_X9_isName, if_pos h1, if_pos h2, if_pos h3] <;> rfl, rfl⟩))
theorem b_X9_isName {σ : zS} : f_X9_isName σ = 0 ∨ f_X9_isName σ = 1 := by
  unfold f_X9_isName
  (repeat' split) <;> first | exact Or.inl rfl | exact Or.inr rfl
def l_X9_isNamed (N : Nat) : Nat → Int32 → Int32 → zS → Int32
  | 0, _, _, σ => 0
  | n + 1, v1, v2, σ => if (σ.1 488 (v1).toNatClampNeg) ≤ v2 then 1 else (if (σ.1 485 ((σ.1 487 (v1).toNatClampNeg) + v2).toNatClampNeg) = (σ.1 485 ((σ.1 468 21) + v2).toNatClampNeg) then (l_X9_isNamed N n v1 (v2 + 1) σ) else 0)
def q_X9_isNamed (N : Nat) : Nat → Int32 → Int32 → zS → Prop
  | 0, _, _, _ => False
  | n + 1, v1, v2, σ => vp_in v1 10 ∧ (¬ (σ.1 488 (v1).toNatClampNeg) ≤ v2 → (vp_in ((σ.1 487 (v1).toNatClampNeg) + v2) 1000 ∧ (vp_in ((σ.1 468 21) + v2) 1000 ∧ ((σ.1 485 ((σ.1 487 (v1).toNatClampNeg) + v2).toNatClampNeg) = (σ.1 485 ((σ.1 468 21) + v2).toNatClampNeg) → q_X9_isNamed N n v1 (v2 + 1) σ))))
set_option maxRecDepth 100000 in
set_option maxHeartbeats 1000000 in
theorem w_X9_isNamed {nx : Nat} (N : Nat) : ∀ n : Nat, (∀ (v1 : Int32) (v2 : Int32) (σ : zS), q_X9_isNamed N n v1 v2 σ → zWp 1 zall nx 173 (fun v σ1 => v = some (.inl (l_X9_isNamed N n v1 v2 σ)) ∧ σ1 = σ) zall nx 22 [some (.inr (9, 57, 468)), some (.inl v1), some (.inl v2)] [] σ) := by
  intro n
  induction n with
  | zero => exact fun _ _ _ h => h.elim
  | succ n ih =>
    intro v1 v2 σ hp
    rw [q_X9_isNamed] at hp
    refine zvc_sound (cd := kX9_isNamed) (cs := [22]) rfl okX9_isNamed 1000 _ _ 22 (zseek kX9_isNamed 22) _ _ _ zseek_sub ?_
    refine And.intro hp.1 ?_
    refine And.intro (fun (h1 : (σ.1 488 (v1).toNatClampNeg) ≤ v2) => ?_) (fun (h1 : ¬ (σ.1 488 (v1).toNatClampNeg) ≤ v2) => ?_)
    · exact And.intro rfl (And.intro rfl (And.intro (Or.inr rfl) ⟨by rw [l_X9_isNamed, if_pos h1] <;> rfl, rfl⟩))
    · refine And.intro hp.1 ?_
      refine And.intro (hp.2 h1).1 ?_
      refine And.intro (hp.2 h1).2.1 ?_
      refine And.intro (fun (h2 : (σ.1 485 ((σ.1 487 (v1).toNatClampNeg) + v2).toNatClampNeg) = (σ.1 485 ((σ.1 468 21) + v2).toNatClampNeg)) => ?_) (fun (h2 : ¬ (σ.1 485 ((σ.1 487 (v1).toNatClampNeg) + v2).toNatClampNeg) = (σ.1 485 ((σ.1 468 21) + v2).toNatClampNeg)) => ?_)
      · refine zWp.use (ih v1 (v2 + 1) σ ((hp.2 h1).2.2 h2)) (And.intro rfl (And.intro rfl (And.intro rfl trivial))) (fun vy σy hy => ?_)
        rw [l_X9_isNamed, if_neg h1, if_pos h2]; exact hy
      · exact And.intro rfl (And.intro rfl (And.intro (Or.inl rfl) ⟨by rw [l_X9_isNamed, if_neg h1, if_neg h2] <;> rfl, rfl⟩))
def f_X9_isNamed (x1 : Int32) (N : Nat) (σ : zS) : Int32 := if (σ.1 488 (x1).toNatClampNeg) = ((σ.1 468 20) - (σ.1 468 21)) then (l_X9_isNamed N N x1 0 σ) else 0
def p_X9_isNamed (x1 : Int32) (N : Nat) (σ : zS) : Prop := vp_in x1 10 ∧ ((σ.1 488 (x1).toNatClampNeg) = ((σ.1 468 20) - (σ.1 468 21)) → q_X9_isNamed N N x1 0 σ)
set_option maxRecDepth 100000 in
set_option maxHeartbeats 1000000 in
theorem c_X9_isNamed {nx : Nat} (x1 : Int32) (N : Nat) (σ : zS) (hp : p_X9_isNamed x1 N σ) : zCl 1 zall nx zall nx 173 [.inr (9, 57, 468), .inl x1] σ (fun v σ1 => v = some (.inl (f_X9_isNamed x1 N σ)) ∧ σ1 = σ) := by
  refine zmeth (cd := kX9_isNamed) [22] 1000 (Nat.le_of_ble_eq_true rfl) rfl okX9_isNamed (Nat.le_refl _) (Nat.le_of_ble_eq_true rfl) ?_
  refine And.intro hp.1 ?_
  refine And.intro (fun (h1 : (σ.1 488 (x1).toNatClampNeg) = ((σ.1 468 20) - (σ.1 468 21))) => ?_) (fun (h1 : ¬ (σ.1 488 (x1).toNatClampNeg) = ((σ.1 468 20) - (σ.1 468 21))) => ?_)
  · refine zWp.use ((w_X9_isNamed N N) x1 0 σ (hp.2 h1)) (And.intro rfl (And.intro rfl (And.intro rfl trivial))) (fun vy σy hy => ?_)
    rw [f_X9_isNamed, if_pos h1]; exact hy
  · exact And.intro rfl (And.intro rfl (And.intro (Or.inl rfl) ⟨by rw [f_X9_isNamed, if_neg h1] <;> rfl, rfl⟩))
def l_X9_functionHere (N : Nat) : Nat → Int32 → Int32 → zS → Int32
  | 0, _, _, σ => 0
  | n + 1, v1, v2, σ => if v1 ≤ v2 then (-1) else (if (f_X9_isNamed v2 N σ) = 0 then (l_X9_functionHere N n v1 (v2 + 1) σ) else v2)
def q_X9_functionHere (N : Nat) : Nat → Int32 → Int32 → zS → Prop
  | 0, _, _, _ => False
  | n + 1, v1, v2, σ => ¬ v1 ≤ v2 → (p_X9_isNamed v2 N σ ∧ ((f_X9_isNamed v2 N σ) = 0 → q_X9_functionHere N n v1 (v2 + 1) σ))
set_option maxRecDepth 100000 in
set_option maxHeartbeats 1000000 in
theorem w_X9_functionHere {nx : Nat} (N : Nat) : ∀ n : Nat, (∀ (v1 : Int32) (v2 : Int32) (σ : zS), q_X9_functionHere N n v1 v2 σ → zWp 2 zall nx 174 (fun v σ1 => v = some (.inl (l_X9_functionHere N n v1 v2 σ)) ∧ σ1 = σ) zall nx 2 [some (.inr (9, 57, 468)), some (.inl v1), some (.inl v2)] [] σ) := by
  intro n
  induction n with
  | zero => exact fun _ _ _ h => h.elim
  | succ n ih =>
    intro v1 v2 σ hp
    rw [q_X9_functionHere] at hp
    refine zvc_sound (cd := kX9_functionHere) (cs := [2]) rfl okX9_functionHere 1000 _ _ 2 (zseek kX9_functionHere 2) _ _ _ zseek_sub ?_
    refine And.intro (fun (h1 : v1 ≤ v2) => ?_) (fun (h1 : ¬ v1 ≤ v2) => ?_)
    · exact And.intro rfl (And.intro rfl ⟨by rw [l_X9_functionHere, if_pos h1] <;> rfl, rfl⟩)
    · refine zCl.use (c_X9_isNamed v2 N σ (hp h1).1) (Nat.le_of_ble_eq_true rfl) ?_
      rintro _ σz ⟨rfl, hz⟩
      subst σz
      refine And.intro (fun (h2 : (f_X9_isNamed v2 N σ) = 0) => ?_) (fun (h2 : ¬ (f_X9_isNamed v2 N σ) = 0) => ?_)
      · refine zWp.use (ih v1 (v2 + 1) σ ((hp h1).2 h2)) (And.intro rfl (And.intro rfl (And.intro rfl trivial))) (fun vy σy hy => ?_)
        rw [l_X9_functionHere, if_neg h1, if_pos h2]; exact hy
      · exact And.intro rfl (And.intro rfl ⟨by rw [l_X9_functionHere, if_neg h1, if_neg h2] <;> rfl, rfl⟩)
def f_X9_functionHere (x1 : Int32) (N : Nat) (σ : zS) : Int32 := l_X9_functionHere N N x1 0 σ
def p_X9_functionHere (x1 : Int32) (N : Nat) (σ : zS) : Prop := q_X9_functionHere N N x1 0 σ
set_option maxRecDepth 100000 in
set_option maxHeartbeats 1000000 in
theorem c_X9_functionHere {nx : Nat} (x1 : Int32) (N : Nat) (σ : zS) (hp : p_X9_functionHere x1 N σ) : zCl 2 zall nx zall nx 174 [.inr (9, 57, 468), .inl x1] σ (fun v σ1 => v = some (.inl (f_X9_functionHere x1 N σ)) ∧ σ1 = σ) := by
  refine zmeth (cd := kX9_functionHere) [2] 1000 (Nat.le_of_ble_eq_true rfl) rfl okX9_functionHere (Nat.le_refl _) (Nat.le_of_ble_eq_true rfl) ?_
  refine zWp.use ((w_X9_functionHere N N) x1 0 σ hp) (And.intro rfl (And.intro rfl (And.intro rfl trivial))) (fun vy σy hy => ?_)
  rw [f_X9_functionHere]; exact hy
def l_X9_parameterHere (N : Nat) : Nat → Int32 → zS → Int32
  | 0, _, σ => 0
  | n + 1, v1, σ => if (σ.1 468 32) ≤ v1 then (-1) else (if (f_X9_isNamed (6 + v1) N σ) = 0 then (l_X9_parameterHere N n (v1 + 1) σ) else v1)
def q_X9_parameterHere (N : Nat) : Nat → Int32 → zS → Prop
  | 0, _, _ => False
  | n + 1, v1, σ => ¬ (σ.1 468 32) ≤ v1 → (p_X9_isNamed (6 + v1) N σ ∧ ((f_X9_isNamed (6 + v1) N σ) = 0 → q_X9_parameterHere N n (v1 + 1) σ))
set_option maxRecDepth 100000 in
set_option maxHeartbeats 1000000 in
theorem w_X9_parameterHere {nx : Nat} (N : Nat) : ∀ n : Nat, (∀ (v1 : Int32) (σ : zS), q_X9_parameterHere N n v1 σ → zWp 2 zall nx 175 (fun v σ1 => v = some (.inl (l_X9_parameterHere N n v1 σ)) ∧ σ1 = σ) zall nx 2 [some (.inr (9, 57, 468)), some (.inl v1)] [] σ) := by
  intro n
  induction n with
  | zero => exact fun _ _ h => h.elim
  | succ n ih =>
    intro v1 σ hp
    rw [q_X9_parameterHere] at hp
    refine zvc_sound (cd := kX9_parameterHere) (cs := [2]) rfl okX9_parameterHere 1000 _ _ 2 (zseek kX9_parameterHere 2) _ _ _ zseek_sub ?_
    refine And.intro (fun (h1 : (σ.1 468 32) ≤ v1) => ?_) (fun (h1 : ¬ (σ.1 468 32) ≤ v1) => ?_)
    · exact And.intro rfl (And.intro rfl ⟨by rw [l_X9_parameterHere, if_pos h1] <;> rfl, rfl⟩)
    · refine zCl.use (c_X9_isNamed (6 + v1) N σ (hp h1).1) (Nat.le_of_ble_eq_true rfl) ?_
      rintro _ σz ⟨rfl, hz⟩
      subst σz
      refine And.intro (fun (h2 : (f_X9_isNamed (6 + v1) N σ) = 0) => ?_) (fun (h2 : ¬ (f_X9_isNamed (6 + v1) N σ) = 0) => ?_)
      · refine zWp.use (ih (v1 + 1) σ ((hp h1).2 h2)) (And.intro rfl (And.intro rfl trivial)) (fun vy σy hy => ?_)
        rw [l_X9_parameterHere, if_neg h1, if_pos h2]; exact hy
      · exact And.intro rfl (And.intro rfl ⟨by rw [l_X9_parameterHere, if_neg h1, if_neg h2] <;> rfl, rfl⟩)
def f_X9_parameterHere (N : Nat) (σ : zS) : Int32 := l_X9_parameterHere N N 0 σ
def p_X9_parameterHere (N : Nat) (σ : zS) : Prop := q_X9_parameterHere N N 0 σ
set_option maxRecDepth 100000 in
set_option maxHeartbeats 1000000 in
theorem c_X9_parameterHere {nx : Nat} (N : Nat) (σ : zS) (hp : p_X9_parameterHere N σ) : zCl 2 zall nx zall nx 175 [.inr (9, 57, 468)] σ (fun v σ1 => v = some (.inl (f_X9_parameterHere N σ)) ∧ σ1 = σ) := by
  refine zmeth (cd := kX9_parameterHere) [2] 1000 (Nat.le_of_ble_eq_true rfl) rfl okX9_parameterHere (Nat.le_refl _) (Nat.le_of_ble_eq_true rfl) ?_
  refine zWp.use ((w_X9_parameterHere N N) 0 σ hp) (And.intro rfl (And.intro rfl trivial)) (fun vy σy hy => ?_)
  rw [f_X9_parameterHere]; exact hy
def u_X9_keepName_1 (x1 : Int32) (σ : zS) : zS := zuI σ 487 (x1).toNatClampNeg (σ.1 468 21)
def u_X9_keepName_2 (x1 : Int32) (σ : zS) : zS := zuI (u_X9_keepName_1 x1 σ) 488 (x1).toNatClampNeg (((u_X9_keepName_1 x1 σ).1 468 20) - ((u_X9_keepName_1 x1 σ).1 468 21))
def s_X9_keepName (x1 : Int32) (σ : zS) : zS := (u_X9_keepName_2 x1 σ)
def p_X9_keepName (x1 : Int32) (σ : zS) : Prop := vp_in x1 10
set_option maxRecDepth 100000 in
set_option maxHeartbeats 1000000 in
theorem c_X9_keepName {nx : Nat} (x1 : Int32) (σ : zS) (hp : p_X9_keepName x1 σ) : zCl 1 zall nx zall nx 176 [.inr (9, 57, 468), .inl x1] σ (fun v σ1 => v = none ∧ σ1 = s_X9_keepName x1 σ) := by
  refine zmeth (cd := kX9_keepName) [] 1000 (Nat.le_of_ble_eq_true rfl) rfl okX9_keepName (Nat.le_refl _) (Nat.le_of_ble_eq_true rfl) ?_
  refine And.intro hp ?_
  refine And.intro hp ?_
  exact And.intro rfl (And.intro rfl ⟨rfl, by rw [s_X9_keepName] <;> rfl⟩)
