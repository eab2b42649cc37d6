/-! printed by wip/whole/dec2.py -/
def u_X3_readNumber_1 (x1 : Int32) (x2 : Int32) (N : Nat) (σ : zS) : zS := (r_X3_refuse 2 (σ.1 3 3) σ).2
def u_X3_readNumber_2 (x1 : Int32) (x2 : Int32) (N : Nat) (σ : zS) : zS := zuI σ 2 5 (σ.1 3 5)
def u_X3_readNumber_3 (x1 : Int32) (x2 : Int32) (N : Nat) (σ : zS) : zS := s_X6_next N (u_X3_readNumber_2 x1 x2 N σ)
def u_X3_readNumber_4 (x1 : Int32) (x2 : Int32) (N : Nat) (σ : zS) : zS := (r_X3_refuse 2 (σ.1 3 3) σ).2
def u_X3_readNumber_5 (x1 : Int32) (x2 : Int32) (N : Nat) (σ : zS) : zS := (r_X3_refuseToken σ).2
def r_X3_readNumber (x1 : Int32) (x2 : Int32) (N : Nat) (σ : zS) : Int32 × zS := if (σ.1 3 2) = 302 then (if (σ.1 3 5) < x1 then ((r_X3_refuse 2 (σ.1 3 3) σ).1, (u_X3_readNumber_1 x1 x2 N σ)) else (if (σ.1 3 5) ≤ x2 then (1, (u_X3_readNumber_3 x1 x2 N σ)) else ((r_X3_refuse 2 (σ.1 3 3) σ).1, (u_X3_readNumber_4 x1 x2 N σ)))) else ((r_X3_refuseToken σ).1, (u_X3_readNumber_5 x1 x2 N σ))
def p_X3_readNumber (x1 : Int32) (x2 : Int32) (N : Nat) (σ : zS) : Prop := (σ.1 3 2) = 302 → (¬ (σ.1 3 5) < x1 → ((σ.1 3 5) ≤ x2 → p_X6_next N (u_X3_readNumber_2 x1 x2 N σ)))
set_option maxRecDepth 100000 in
set_option maxHeartbeats 1000000 in
theorem c_X3_readNumber {nx : Nat} (x1 : Int32) (x2 : Int32) (N : Nat) (σ : zS) (hp : p_X3_readNumber x1 x2 N σ) : zCl 9 zall nx zall nx 34 [.inr (3, 12, 2), .inl x1, .inl x2] σ (fun v σ1 => v = some (.inl ((r_X3_readNumber x1 x2 N σ).1)) ∧ σ1 = (r_X3_readNumber x1 x2 N σ).2) := by
  refine zmeth (cd := kX3_readNumber) [] 1000 (Nat.le_of_ble_eq_true rfl) rfl okX3_readNumber (Nat.le_refl _) (Nat.le_of_ble_eq_true rfl) ?_
  refine And.intro (fun (h1 : (σ.1 3 2) = 302) => ?_) (fun (h1 : ¬ (σ.1 3 2) = 302) => ?_)
  · refine And.intro (fun (h2 : (σ.1 3 5) < x1) => ?_) (fun (h2 : ¬ (σ.1 3 5) < x1) => ?_)
    · refine zCl.use (c_X3_refuse 2 (σ.1 3 3) σ) (Nat.le_of_ble_eq_true rfl) ?_
      rintro _ σz ⟨rfl, hz⟩
      subst σz
      exact And.intro rfl (And.intro rfl (And.intro b_X3_refuse ⟨by rw [r_X3_readNumber, if_pos h1, if_pos h2] <;> rfl, by rw [r_X3_readNumber, if_pos h1, if_pos h2] <;> rfl⟩))
    · refine And.intro (fun (h3 : (σ.1 3 5) ≤ x2) => ?_) (fun (h3 : ¬ (σ.1 3 5) ≤ x2) => ?_)
      · refine zCl.use (c_X6_next N (u_X3_readNumber_2 x1 x2 N σ) (((hp h1) h2) h3)) (Nat.le_of_ble_eq_true rfl) ?_
        rintro _ σz ⟨rfl, hz⟩
        subst σz
        exact And.intro rfl (And.intro rfl (And.intro (Or.inr rfl) ⟨by rw [r_X3_readNumber, if_pos h1, if_neg h2, if_pos h3] <;> rfl, by rw [r_X3_readNumber, if_pos h1, if_neg h2, if_pos h3] <;> rfl⟩))
      · refine zCl.use (c_X3_refuse 2 (σ.1 3 3) σ) (Nat.le_of_ble_eq_true rfl) ?_
        rintro _ σz ⟨rfl, hz⟩
        subst σz
        exact And.intro rfl (And.intro rfl (And.intro b_X3_refuse ⟨by rw [r_X3_readNumber, if_pos h1, if_neg h2, if_neg h3] <;> rfl, by rw [r_X3_readNumber, if_pos h1, if_neg h2, if_neg h3] <;> rfl⟩))
  · refine zCl.use (c_X3_refuseToken σ) (Nat.le_of_ble_eq_true rfl) ?_
    rintro _ σz ⟨rfl, hz⟩
    subst σz
    exact And.intro rfl (And.intro rfl (And.intro b_X3_refuseToken ⟨by rw [r_X3_readNumber, if_neg h1] <;> rfl, by rw [r_X3_readNumber, if_neg h1] <;> rfl⟩))
theorem b_X3_readNumber {x1 : Int32} {x2 : Int32} {N : Nat} {σ : zS} : (r_X3_readNumber x1 x2 N σ).1 = 0 ∨ (r_X3_readNumber x1 x2 N σ).1 = 1 := by
  unfold r_X3_readNumber
  (repeat' split) <;> first | exact Or.inl rfl | exact Or.inr rfl | exact b_X3_refuse | exact b_X3_refuseToken
def u_X3_readSign_1 (x1 : Int32) (N : Nat) (σ : zS) : zS := s_X6_next N σ
def u_X3_readSign_2 (x1 : Int32) (N : Nat) (σ : zS) : zS := (r_X3_refuseToken σ).2
def r_X3_readSign (x1 : Int32) (N : Nat) (σ : zS) : Int32 × zS := if (σ.1 3 2) = x1 then (1, (u_X3_readSign_1 x1 N σ)) else ((r_X3_refuseToken σ).1, (u_X3_readSign_2 x1 N σ))
def p_X3_readSign (x1 : Int32) (N : Nat) (σ : zS) : Prop := (σ.1 3 2) = x1 → p_X6_next N σ
set_option maxRecDepth 100000 in
set_option maxHeartbeats 1000000 in
theorem c_X3_readSign {nx : Nat} (x1 : Int32) (N : Nat) (σ : zS) (hp : p_X3_readSign x1 N σ) : zCl 9 zall nx zall nx 35 [.inr (3, 12, 2), .inl x1] σ (fun v σ1 => v = some (.inl ((r_X3_readSign x1 N σ).1)) ∧ σ1 = (r_X3_readSign x1 N σ).2) := by
  refine zmeth (cd := kX3_readSign) [] 1000 (Nat.le_of_ble_eq_true rfl) rfl okX3_readSign (Nat.le_refl _) (Nat.le_of_ble_eq_true rfl) ?_
  refine And.intro (fun (h1 : (σ.1 3 2) = x1) => ?_) (fun (h1 : ¬ (σ.1 3 2) = x1) => ?_)
  · refine zCl.use (c_X6_next N σ (hp h1)) (Nat.le_of_ble_eq_true rfl) ?_
    rintro _ σz ⟨rfl, hz⟩
    subst σz
    exact And.intro rfl (And.intro rfl (And.intro (Or.inr rfl) ⟨by rw [r_X3_readSign, if_pos h1] <;> rfl, by rw [r_X3_readSign, if_pos h1] <;> rfl⟩))
  · refine zCl.use (c_X3_refuseToken σ) (Nat.le_of_ble_eq_true rfl) ?_
    rintro _ σz ⟨rfl, hz⟩
    subst σz
    exact And.intro rfl (And.intro rfl (And.intro b_X3_refuseToken ⟨by rw [r_X3_readSign, if_neg h1] <;> rfl, by rw [r_X3_readSign, if_neg h1] <;> rfl⟩))
theorem b_X3_readSign {x1 : Int32} {N : Nat} {σ : zS} : (r_X3_readSign x1 N σ).1 = 0 ∨ (r_X3_readSign x1 N σ).1 = 1 := by
  unfold r_X3_readSign
  (repeat' split) <;> first | exact Or.inl rfl | exact Or.inr rfl | exact b_X3_refuseToken
def u_X3_readNewName_1 (N : Nat) (σ : zS) : zS := s_X8_put 6 12 (σ.1 (σ.2 2 1 - 1) 6) (σ.1 3 3) σ
def u_X3_readNewName_2 (N : Nat) (σ : zS) : zS := s_X8_put 6 13 ((u_X3_readNewName_1 N σ).1 ((u_X3_readNewName_1 N σ).2 2 1 - 1) 6) ((u_X3_readNewName_1 N σ).1 3 4) (u_X3_readNewName_1 N σ)
def u_X3_readNewName_3 (N : Nat) (σ : zS) : zS := s_X8_put 6 (((u_X3_readNewName_2 N σ).2 2 1 - 1) + 1) ((u_X3_readNewName_2 N σ).1 ((u_X3_readNewName_2 N σ).2 2 1 - 1) 6) ((u_X3_readNewName_2 N σ).1 ((u_X3_readNewName_2 N σ).2 2 1 - 1) 9) (u_X3_readNewName_2 N σ)
def u_X3_readNewName_4 (N : Nat) (σ : zS) : zS := zuI (u_X3_readNewName_3 N σ) ((u_X3_readNewName_3 N σ).2 2 1 - 1) 6 (((u_X3_readNewName_3 N σ).1 ((u_X3_readNewName_3 N σ).2 2 1 - 1) 6) + 1)
def u_X3_readNewName_5 (N : Nat) (σ : zS) : zS := s_X6_next N (u_X3_readNewName_4 N σ)
def u_X3_readNewName_6 (N : Nat) (σ : zS) : zS := (r_X3_refuse 3 (σ.1 3 3) σ).2
def u_X3_readNewName_7 (N : Nat) (σ : zS) : zS := (r_X3_refuseToken σ).2
def r_X3_readNewName (N : Nat) (σ : zS) : Int32 × zS := if (σ.1 3 2) = 303 then (if (f_X3_functionNamed (σ.1 3 3) (σ.1 3 4) N σ) = (-1) then (1, (u_X3_readNewName_5 N σ)) else ((r_X3_refuse 3 (σ.1 3 3) σ).1, (u_X3_readNewName_6 N σ))) else ((r_X3_refuseToken σ).1, (u_X3_readNewName_7 N σ))
def p_X3_readNewName (N : Nat) (σ : zS) : Prop := (σ.1 3 2) = 303 → (p_X3_functionNamed (σ.1 3 3) (σ.1 3 4) N σ ∧ ((f_X3_functionNamed (σ.1 3 3) (σ.1 3 4) N σ) = (-1) → ((σ.2 2 1 ≠ 0 ∧ zlay (σ.2 2 1 - 1) = (2, 16)) ∧ (p_X8_put 6 12 (σ.1 (σ.2 2 1 - 1) 6) (σ.1 3 3) σ ∧ (((u_X3_readNewName_1 N σ).2 2 1 ≠ 0 ∧ zlay ((u_X3_readNewName_1 N σ).2 2 1 - 1) = (2, 16)) ∧ (p_X8_put 6 13 ((u_X3_readNewName_1 N σ).1 ((u_X3_readNewName_1 N σ).2 2 1 - 1) 6) ((u_X3_readNewName_1 N σ).1 3 4) (u_X3_readNewName_1 N σ) ∧ (((u_X3_readNewName_2 N σ).2 2 1 ≠ 0 ∧ zlay ((u_X3_readNewName_2 N σ).2 2 1 - 1) = (2, 16)) ∧ (p_X8_put 6 (((u_X3_readNewName_2 N σ).2 2 1 - 1) + 1) ((u_X3_readNewName_2 N σ).1 ((u_X3_readNewName_2 N σ).2 2 1 - 1) 6) ((u_X3_readNewName_2 N σ).1 ((u_X3_readNewName_2 N σ).2 2 1 - 1) 9) (u_X3_readNewName_2 N σ) ∧ (((u_X3_readNewName_3 N σ).2 2 1 ≠ 0 ∧ zlay ((u_X3_readNewName_3 N σ).2 2 1 - 1) = (2, 16)) ∧ p_X6_next N (u_X3_readNewName_4 N σ))))))))))
set_option maxRecDepth 100000 in
set_option maxHeartbeats 1000000 in
theorem c_X3_readNewName {nx : Nat} (N : Nat) (σ : zS) (hp : p_X3_readNewName N σ) : zCl 9 zall nx zall nx 37 [.inr (3, 12, 2)] σ (fun v σ1 => v = some (.inl ((r_X3_readNewName N σ).1)) ∧ σ1 = (r_X3_readNewName N σ).2) := by
  refine zmeth (cd := kX3_readNewName) [] 1000 (Nat.le_of_ble_eq_true rfl) rfl okX3_readNewName (Nat.le_refl _) (Nat.le_of_ble_eq_true rfl) ?_
  refine And.intro (fun (h1 : (σ.1 3 2) = 303) => ?_) (fun (h1 : ¬ (σ.1 3 2) = 303) => ?_)
  · refine zCl.use (c_X3_functionNamed (σ.1 3 3) (σ.1 3 4) N σ (hp h1).1) (Nat.le_of_ble_eq_true rfl) ?_
    rintro _ σz ⟨rfl, hz⟩
    subst σz
    refine And.intro (fun (h2 : (f_X3_functionNamed (σ.1 3 3) (σ.1 3 4) N σ) = (-1)) => ?_) (fun (h2 : ¬ (f_X3_functionNamed (σ.1 3 3) (σ.1 3 4) N σ) = (-1)) => ?_)
    · refine And.intro ((hp h1).2 h2).1.1 (fun q903 (e3 : σ.2 2 1 = q903 + 1) => ?_)
      have g3 : q903 = (σ.2 2 1 - 1) := by omega
      subst g3
      rw [((hp h1).2 h2).1.2]
      refine zCl.use (c_X8_put 6 12 (σ.1 (σ.2 2 1 - 1) 6) (σ.1 3 3) σ ((hp h1).2 h2).2.1) (Nat.le_of_ble_eq_true rfl) ?_
      rintro _ σz ⟨rfl, hz⟩
      subst σz
      refine And.intro ((hp h1).2 h2).2.2.1.1 (fun q904 (e4 : (u_X3_readNewName_1 N σ).2 2 1 = q904 + 1) => ?_)
      have g4 : q904 = ((u_X3_readNewName_1 N σ).2 2 1 - 1) := by omega
      subst g4
      rw [((hp h1).2 h2).2.2.1.2]
      refine zCl.use (c_X8_put 6 13 ((u_X3_readNewName_1 N σ).1 ((u_X3_readNewName_1 N σ).2 2 1 - 1) 6) ((u_X3_readNewName_1 N σ).1 3 4) (u_X3_readNewName_1 N σ) ((hp h1).2 h2).2.2.2.1) (Nat.le_of_ble_eq_true rfl) ?_
      rintro _ σz ⟨rfl, hz⟩
      subst σz
      refine And.intro ((hp h1).2 h2).2.2.2.2.1.1 (fun q905 (e5 : (u_X3_readNewName_2 N σ).2 2 1 = q905 + 1) => ?_)
      have g5 : q905 = ((u_X3_readNewName_2 N σ).2 2 1 - 1) := by omega
      subst g5
      rw [((hp h1).2 h2).2.2.2.2.1.2]
      refine And.intro ((hp h1).2 h2).2.2.2.2.1.1 (fun q906 (e6 : (u_X3_readNewName_2 N σ).2 2 1 = q906 + 1) => ?_)
      have g6 : q906 = ((u_X3_readNewName_2 N σ).2 2 1 - 1) := by omega
      subst g6
      rw [((hp h1).2 h2).2.2.2.2.1.2]
      refine And.intro ((hp h1).2 h2).2.2.2.2.1.1 (fun q907 (e7 : (u_X3_readNewName_2 N σ).2 2 1 = q907 + 1) => ?_)
      have g7 : q907 = ((u_X3_readNewName_2 N σ).2 2 1 - 1) := by omega
      subst g7
      rw [((hp h1).2 h2).2.2.2.2.1.2]
      refine zCl.use (c_X8_put 6 (((u_X3_readNewName_2 N σ).2 2 1 - 1) + 1) ((u_X3_readNewName_2 N σ).1 ((u_X3_readNewName_2 N σ).2 2 1 - 1) 6) ((u_X3_readNewName_2 N σ).1 ((u_X3_readNewName_2 N σ).2 2 1 - 1) 9) (u_X3_readNewName_2 N σ) ((hp h1).2 h2).2.2.2.2.2.1) (Nat.le_of_ble_eq_true rfl) ?_
      rintro _ σz ⟨rfl, hz⟩
      subst σz
      refine And.intro ((hp h1).2 h2).2.2.2.2.2.2.1.1 (fun q908 (e8 : (u_X3_readNewName_3 N σ).2 2 1 = q908 + 1) => ?_)
      have g8 : q908 = ((u_X3_readNewName_3 N σ).2 2 1 - 1) := by omega
      subst g8
      rw [((hp h1).2 h2).2.2.2.2.2.2.1.2]
      refine zCl.use (c_X6_next N (u_X3_readNewName_4 N σ) ((hp h1).2 h2).2.2.2.2.2.2.2) (Nat.le_of_ble_eq_true rfl) ?_
      rintro _ σz ⟨rfl, hz⟩
      subst σz
      exact And.intro rfl (And.intro rfl (And.intro (Or.inr rfl) ⟨by rw [r_X3_readNewName, if_pos h1, if_pos h2] <;> rfl, by rw [r_X3_readNewName, if_pos h1, if_pos h2] <;> rfl⟩))
    · refine zCl.use (c_X3_refuse 3 (σ.1 3 3) σ) (Nat.le_of_ble_eq_true rfl) ?_
      rintro _ σz ⟨rfl, hz⟩
      subst σz
      exact And.intro rfl (And.intro rfl (And.intro b_X3_refuse ⟨by rw [r_X3_readNewName, if_pos h1, if_neg h2] <;> rfl, by rw [r_X3_readNewName, if_pos h1, if_neg h2] <;> rfl⟩))
  · refine zCl.use (c_X3_refuseToken σ) (Nat.le_of_ble_eq_true rfl) ?_
    rintro _ σz ⟨rfl, hz⟩
    subst σz
    exact And.intro rfl (And.intro rfl (And.intro b_X3_refuseToken ⟨by rw [r_X3_readNewName, if_neg h1] <;> rfl, by rw [r_X3_readNewName, if_neg h1] <;> rfl⟩))
theorem b_X3_readNewName {N : Nat} {σ : zS} : (r_X3_readNewName N σ).1 = 0 ∨ (r_X3_readNewName N σ).1 = 1 := by
  unfold r_X3_readNewName
  (repeat' split) <;> first | exact Or.inl rfl | exact Or.inr rfl | exact b_X3_refuse | exact b_X3_refuseToken
def u_X3_readParameters_h0_1 (N : Nat) (v1 : Int32) (σ : zS) : zS := s_X8_put 6 ((σ.2 2 1 - 1) + 2) ((σ.1 (σ.2 2 1 - 1) 6) - 1) (σ.1 2 7) σ
def u_X3_readParameters_h0_2 (N : Nat) (v1 : Int32) (σ : zS) : zS := s_X8_put 6 ((σ.2 2 1 - 1) + 2) ((σ.1 (σ.2 2 1 - 1) 6) - 1) (σ.1 2 7) σ
def u_X3_readParameters_h0_3 (N : Nat) (v1 : Int32) (σ : zS) : zS := (r_X3_refuse 3 (σ.1 3 3) σ).2
def u_X3_readParameters_h0_4 (N : Nat) (v1 : Int32) (σ : zS) : zS := s_X8_put 4 14 (σ.1 2 7) (σ.1 3 3) σ
def u_X3_readParameters_h0_5 (N : Nat) (v1 : Int32) (σ : zS) : zS := s_X8_put 4 15 ((u_X3_readParameters_h0_4 N v1 σ).1 2 7) ((u_X3_readParameters_h0_4 N v1 σ).1 3 4) (u_X3_readParameters_h0_4 N v1 σ)
def u_X3_readParameters_h0_6 (N : Nat) (v1 : Int32) (σ : zS) : zS := zuI (u_X3_readParameters_h0_5 N v1 σ) 2 7 (((u_X3_readParameters_h0_5 N v1 σ).1 2 7) + 1)
def u_X3_readParameters_h0_7 (N : Nat) (v1 : Int32) (σ : zS) : zS := s_X6_next N (u_X3_readParameters_h0_6 N v1 σ)
def u_X3_readParameters_h0_8 (N : Nat) (v1 : Int32) (σ : zS) : zS := (r_X3_refuse 5 (σ.1 3 3) σ).2
def u_X3_readParameters_h0_9 (N : Nat) (v1 : Int32) (σ : zS) : zS := (r_X3_refuse 3 (σ.1 3 3) σ).2
def l_X3_readParameters (N : Nat) : Nat → Int32 → zS → Int32 × zS
  | 0, _, σ => (0, σ)
  | n + 1, v1, σ => if 4 < v1 then (1, (u_X3_readParameters_h0_1 N v1 σ)) else (if (σ.1 3 2) = 303 then (if (f_X3_functionNamed (σ.1 3 3) (σ.1 3 4) N σ) = (-1) then (if (f_X3_parameterNamed (σ.1 3 3) (σ.1 3 4) N σ) = (-1) then (if (σ.1 2 7) < 4 then (l_X3_readParameters N n (v1 + 1) (u_X3_readParameters_h0_7 N v1 σ)) else ((r_X3_refuse 5 (σ.1 3 3) σ).1, (u_X3_readParameters_h0_8 N v1 σ))) else ((r_X3_refuse 3 (σ.1 3 3) σ).1, (u_X3_readParameters_h0_9 N v1 σ))) else ((r_X3_refuse 3 (σ.1 3 3) σ).1, (u_X3_readParameters_h0_3 N v1 σ))) else (1, (u_X3_readParameters_h0_2 N v1 σ)))
def q_X3_readParameters (N : Nat) : Nat → Int32 → zS → Prop
  | 0, _, _ => False
  | n + 1, v1, σ => (4 < v1 → ((σ.2 2 1 ≠ 0 ∧ zlay (σ.2 2 1 - 1) = (2, 16)) ∧ p_X8_put 6 ((σ.2 2 1 - 1) + 2) ((σ.1 (σ.2 2 1 - 1) 6) - 1) (σ.1 2 7) σ)) ∧ (¬ 4 < v1 → ((¬ (σ.1 3 2) = 303 → ((σ.2 2 1 ≠ 0 ∧ zlay (σ.2 2 1 - 1) = (2, 16)) ∧ p_X8_put 6 ((σ.2 2 1 - 1) + 2) ((σ.1 (σ.2 2 1 - 1) 6) - 1) (σ.1 2 7) σ)) ∧ ((σ.1 3 2) = 303 → (p_X3_functionNamed (σ.1 3 3) (σ.1 3 4) N σ ∧ ((f_X3_functionNamed (σ.1 3 3) (σ.1 3 4) N σ) = (-1) → (p_X3_parameterNamed (σ.1 3 3) (σ.1 3 4) N σ ∧ ((f_X3_parameterNamed (σ.1 3 3) (σ.1 3 4) N σ) = (-1) → ((σ.1 2 7) < 4 → (p_X8_put 4 14 (σ.1 2 7) (σ.1 3 3) σ ∧ (p_X8_put 4 15 ((u_X3_readParameters_h0_4 N v1 σ).1 2 7) ((u_X3_readParameters_h0_4 N v1 σ).1 3 4) (u_X3_readParameters_h0_4 N v1 σ) ∧ (p_X6_next N (u_X3_readParameters_h0_6 N v1 σ) ∧ q_X3_readParameters N n (v1 + 1) (u_X3_readParameters_h0_7 N v1 σ))))))))))))
set_option maxRecDepth 100000 in
set_option maxHeartbeats 1000000 in
theorem w_X3_readParameters {nx : Nat} (N : Nat) : ∀ n : Nat, (∀ (v1 : Int32) (σ : zS), q_X3_readParameters N n v1 σ → zWp 9 zall nx 38 (fun v σ1 => v = some (.inl ((l_X3_readParameters N n v1 σ).1)) ∧ σ1 = (l_X3_readParameters N n v1 σ).2) zall nx 7 [some (.inr (3, 12, 2)), some (.inl v1)] [] σ) := by
  intro n
  induction n with
  | zero => exact fun _ _ h => h.elim
  | succ n ih =>
    intro v1 σ hp
    rw [q_X3_readParameters] at hp
    refine zvc_sound (cd := kX3_readParameters) (cs := [7]) rfl okX3_readParameters 1000 _ _ 7 (zseek kX3_readParameters 7) _ _ _ zseek_sub ?_
    refine And.intro (fun (h1 : 4 < v1) => ?_) (fun (h1 : ¬ 4 < v1) => ?_)
    · refine And.intro (hp.1 h1).1.1 (fun q902 (e2 : σ.2 2 1 = q902 + 1) => ?_)
      have g2 : q902 = (σ.2 2 1 - 1) := by omega
      subst g2
      rw [(hp.1 h1).1.2]
      refine And.intro (hp.1 h1).1.1 (fun q903 (e3 : σ.2 2 1 = q903 + 1) => ?_)
      have g3 : q903 = (σ.2 2 1 - 1) := by omega
      subst g3
      rw [(hp.1 h1).1.2]
      refine zCl.use (c_X8_put 6 ((σ.2 2 1 - 1) + 2) ((σ.1 (σ.2 2 1 - 1) 6) - 1) (σ.1 2 7) σ (hp.1 h1).2) (Nat.le_of_ble_eq_true rfl) ?_
      rintro _ σz ⟨rfl, hz⟩
      subst σz
      exact And.intro rfl (And.intro rfl (And.intro (Or.inr rfl) ⟨by rw [l_X3_readParameters, if_pos h1] <;> rfl, by rw [l_X3_readParameters, if_pos h1] <;> rfl⟩))
    · refine And.intro (fun (h4 : ¬ (σ.1 3 2) = 303) => ?_) (fun (h4 : (σ.1 3 2) = 303) => ?_)
      · refine And.intro ((hp.2 h1).1 h4).1.1 (fun q905 (e5 : σ.2 2 1 = q905 + 1) => ?_)
        have g5 : q905 = (σ.2 2 1 - 1) := by omega
        subst g5
        rw [((hp.2 h1).1 h4).1.2]
        refine And.intro ((hp.2 h1).1 h4).1.1 (fun q906 (e6 : σ.2 2 1 = q906 + 1) => ?_)
        have g6 : q906 = (σ.2 2 1 - 1) := by omega
        subst g6
        rw [((hp.2 h1).1 h4).1.2]
        refine zCl.use (c_X8_put 6 ((σ.2 2 1 - 1) + 2) ((σ.1 (σ.2 2 1 - 1) 6) - 1) (σ.1 2 7) σ ((hp.2 h1).1 h4).2) (Nat.le_of_ble_eq_true rfl) ?_
        rintro _ σz ⟨rfl, hz⟩
        subst σz
        exact And.intro rfl (And.intro rfl (And.intro (Or.inr rfl) ⟨by rw [l_X3_readParameters, if_neg h1, if_neg h4] <;> rfl, by rw [l_X3_readParameters, if_neg h1, if_neg h4] <;> rfl⟩))
      · refine zCl.use (c_X3_functionNamed (σ.1 3 3) (σ.1 3 4) N σ ((hp.2 h1).2 h4).1) (Nat.le_of_ble_eq_true rfl) ?_
        rintro _ σz ⟨rfl, hz⟩
        subst σz
        refine And.intro (fun (h7 : ¬ (f_X3_functionNamed (σ.1 3 3) (σ.1 3 4) N σ) = (-1)) => ?_) (fun (h7 : (f_X3_functionNamed (σ.1 3 3) (σ.1 3 4) N σ) = (-1)) => ?_)
        · refine zCl.use (c_X3_refuse 3 (σ.1 3 3) σ) (Nat.le_of_ble_eq_true rfl) ?_
          rintro _ σz ⟨rfl, hz⟩
          subst σz
          exact And.intro rfl (And.intro rfl (And.intro b_X3_refuse ⟨by rw [l_X3_readParameters, if_neg h1, if_pos h4, if_neg h7] <;> rfl, by rw [l_X3_readParameters, if_neg h1, if_pos h4, if_neg h7] <;> rfl⟩))
        · refine zCl.use (c_X3_parameterNamed (σ.1 3 3) (σ.1 3 4) N σ (((hp.2 h1).2 h4).2 h7).1) (Nat.le_of_ble_eq_true rfl) ?_
          rintro _ σz ⟨rfl, hz⟩
          subst σz
          refine And.intro (fun (h8 : (f_X3_parameterNamed (σ.1 3 3) (σ.1 3 4) N σ) = (-1)) => ?_) (fun (h8 : ¬ (f_X3_parameterNamed (σ.1 3 3) (σ.1 3 4) N σ) = (-1)) => ?_)
          · refine And.intro (fun (h9 : (σ.1 2 7) < 4) => ?_) (fun (h9 : ¬ (σ.1 2 7) < 4) => ?_)
            · refine zCl.use (c_X8_put 4 14 (σ.1 2 7) (σ.1 3 3) σ (((((hp.2 h1).2 h4).2 h7).2 h8) h9).1) (Nat.le_of_ble_eq_true rfl) ?_
              rintro _ σz ⟨rfl, hz⟩
              subst σz
              refine zCl.use (c_X8_put 4 15 ((u_X3_readParameters_h0_4 N v1 σ).1 2 7) ((u_X3_readParameters_h0_4 N v1 σ).1 3 4) (u_X3_readParameters_h0_4 N v1 σ) (((((hp.2 h1).2 h4).2 h7).2 h8) h9).2.1) (Nat.le_of_ble_eq_true rfl) ?_
              rintro _ σz ⟨rfl, hz⟩
              subst σz
              refine zCl.use (c_X6_next N (u_X3_readParameters_h0_6 N v1 σ) (((((hp.2 h1).2 h4).2 h7).2 h8) h9).2.2.1) (Nat.le_of_ble_eq_true rfl) ?_
              rintro _ σz ⟨rfl, hz⟩
              subst σz
              refine zWp.use (ih (v1 + 1) (u_X3_readParameters_h0_7 N v1 σ) (((((hp.2 h1).2 h4).2 h7).2 h8) h9).2.2.2) (And.intro rfl (And.intro rfl trivial)) (fun vy σy hy => ?_)
              rw [l_X3_readParameters, if_neg h1, if_pos h4, if_pos h7, if_pos h8, if_pos h9]; exact hy
            · refine zCl.use (c_X3_refuse 5 (σ.1 3 3) σ) (Nat.le_of_ble_eq_true rfl) ?_
              rintro _ σz ⟨rfl, hz⟩
              subst σz
              exact And.intro rfl (And.intro rfl (And.intro b_X3_refuse ⟨by rw [l_X3_readParameters, if_neg h1, if_pos h4, if_pos h7, if_pos h8, if_neg h9] <;> rfl, by rw [l_X3_readParameters, if_neg h1, if_pos h4, if_pos h7, if_pos h8, if_neg h9] <;> rfl⟩))
          · refine zCl.use (c_X3_refuse 3 (σ.1 3 3) σ) (Nat.le_of_ble_eq_true rfl) ?_
            rintro _ σz ⟨rfl, hz⟩
            subst σz
            exact And.intro rfl (And.intro rfl (And.intro b_X3_refuse ⟨by rw [l_X3_readParameters, if_neg h1, if_pos h4, if_pos h7, if_neg h8] <;> rfl, by rw [l_X3_readParameters, if_neg h1, if_pos h4, if_pos h7, if_neg h8] <;> rfl⟩))
def u_X3_readParameters_1 (N : Nat) (σ : zS) : zS := zuI σ 2 7 0
def r_X3_readParameters (N : Nat) (σ : zS) : Int32 × zS := l_X3_readParameters N N 0 (u_X3_readParameters_1 N σ)
def p_X3_readParameters (N : Nat) (σ : zS) : Prop := q_X3_readParameters N N 0 (u_X3_readParameters_1 N σ)
set_option maxRecDepth 100000 in
set_option maxHeartbeats 1000000 in
theorem c_X3_readParameters {nx : Nat} (N : Nat) (σ : zS) (hp : p_X3_readParameters N σ) : zCl 9 zall nx zall nx 38 [.inr (3, 12, 2)] σ (fun v σ1 => v = some (.inl ((r_X3_readParameters N σ).1)) ∧ σ1 = (r_X3_readParameters N σ).2) := by
  refine zmeth (cd := kX3_readParameters) [7] 1000 (Nat.le_of_ble_eq_true rfl) rfl okX3_readParameters (Nat.le_refl _) (Nat.le_of_ble_eq_true rfl) ?_
  refine zWp.use ((w_X3_readParameters N N) 0 (u_X3_readParameters_1 N σ) hp) (And.intro rfl (And.intro rfl trivial)) (fun vy σy hy => ?_)
  rw [r_X3_readParameters]; exact hy
def u_X3_readTaskNumber_1 (x1 : Int32) (N : Nat) (σ : zS) : zS := (r_X3_readNumber 0 9999 N σ).2
def u_X3_readTaskNumber_2 (x1 : Int32) (N : Nat) (σ : zS) : zS := s_X8_put 16 (((u_X3_readTaskNumber_1 x1 N σ).2 2 1 - 1) + 4) x1 ((u_X3_readTaskNumber_1 x1 N σ).1 2 5) (u_X3_readTaskNumber_1 x1 N σ)
def u_X3_readTaskNumber_3 (x1 : Int32) (N : Nat) (σ : zS) : zS := s_X6_next N σ
def u_X3_readTaskNumber_4 (x1 : Int32) (N : Nat) (σ : zS) : zS := (r_X3_readNumber 0 9999 N (u_X3_readTaskNumber_3 x1 N σ)).2
def u_X3_readTaskNumber_5 (x1 : Int32) (N : Nat) (σ : zS) : zS := s_X8_put 16 (((u_X3_readTaskNumber_4 x1 N σ).2 2 1 - 1) + 4) x1 (-((u_X3_readTaskNumber_4 x1 N σ).1 2 5)) (u_X3_readTaskNumber_4 x1 N σ)
def u_X3_readTaskNumber_6 (x1 : Int32) (N : Nat) (σ : zS) : zS := (r_X3_refuse 5 (σ.1 3 3) σ).2
def r_X3_readTaskNumber (x1 : Int32) (N : Nat) (σ : zS) : Int32 × zS := if (σ.1 3 2) = 59 then ((r_X3_refuse 5 (σ.1 3 3) σ).1, (u_X3_readTaskNumber_6 x1 N σ)) else (if (σ.1 3 2) = 45 then (if ((r_X3_readNumber 0 9999 N (u_X3_readTaskNumber_3 x1 N σ)).1) = 0 then (0, (u_X3_readTaskNumber_4 x1 N σ)) else (1, (u_X3_readTaskNumber_5 x1 N σ))) else (if ((r_X3_readNumber 0 9999 N σ).1) = 0 then (0, (u_X3_readTaskNumber_1 x1 N σ)) else (1, (u_X3_readTaskNumber_2 x1 N σ))))
def p_X3_readTaskNumber (x1 : Int32) (N : Nat) (σ : zS) : Prop := ¬ (σ.1 3 2) = 59 → ((¬ (σ.1 3 2) = 45 → (p_X3_readNumber 0 9999 N σ ∧ (¬ ((r_X3_readNumber 0 9999 N σ).1) = 0 → (((u_X3_readTaskNumber_1 x1 N σ).2 2 1 ≠ 0 ∧ zlay ((u_X3_readTaskNumber_1 x1 N σ).2 2 1 - 1) = (2, 16)) ∧ p_X8_put 16 (((u_X3_readTaskNumber_1 x1 N σ).2 2 1 - 1) + 4) x1 ((u_X3_readTaskNumber_1 x1 N σ).1 2 5) (u_X3_readTaskNumber_1 x1 N σ))))) ∧ ((σ.1 3 2) = 45 → (p_X6_next N σ ∧ (p_X3_readNumber 0 9999 N (u_X3_readTaskNumber_3 x1 N σ) ∧ (¬ ((r_X3_readNumber 0 9999 N (u_X3_readTaskNumber_3 x1 N σ)).1) = 0 → (((u_X3_readTaskNumber_4 x1 N σ).2 2 1 ≠ 0 ∧ zlay ((u_X3_readTaskNumber_4 x1 N σ).2 2 1 - 1) = (2, 16)) ∧ p_X8_put 16 (((u_X3_readTaskNumber_4 x1 N σ).2 2 1 - 1) + 4) x1 (-((u_X3_readTaskNumber_4 x1 N σ).1 2 5)) (u_X3_readTaskNumber_4 x1 N σ)))))))
set_option maxRecDepth 100000 in
set_option maxHeartbeats 1000000 in
theorem c_X3_readTaskNumber {nx : Nat} (x1 : Int32) (N : Nat) (σ : zS) (hp : p_X3_readTaskNumber x1 N σ) : zCl 10 zall nx zall nx 42 [.inr (3, 12, 2), .inl x1] σ (fun v σ1 => v = some (.inl ((r_X3_readTaskNumber x1 N σ).1)) ∧ σ1 = (r_X3_readTaskNumber x1 N σ).2) := by
  refine zmeth (cd := kX3_readTaskNumber) [] 1000 (Nat.le_of_ble_eq_true rfl) rfl okX3_readTaskNumber (Nat.le_refl _) (Nat.le_of_ble_eq_true rfl) ?_
  refine And.intro (fun (h1 : ¬ (σ.1 3 2) = 59) => ?_) (fun (h1 : (σ.1 3 2) = 59) => ?_)
  · refine And.intro (fun (h2 : ¬ (σ.1 3 2) = 45) => ?_) (fun (h2 : (σ.1 3 2) = 45) => ?_)
    · refine And.intro (fun _ => ?_) (fun (z : ¬ (0 : Int32) = 0) => absurd z (by decide))
      refine zCl.use (c_X3_readNumber 0 9999 N σ ((hp h1).1 h2).1) (Nat.le_of_ble_eq_true rfl) ?_
      rintro _ σz ⟨rfl, hz⟩
      subst σz
      refine And.intro (fun (h3 : ¬ ((r_X3_readNumber 0 9999 N σ).1) = 0) => ?_) (fun (h3 : ((r_X3_readNumber 0 9999 N σ).1) = 0) => ?_)
      · refine And.intro (((hp h1).1 h2).2 h3).1.1 (fun q904 (e4 : (u_X3_readTaskNumber_1 x1 N σ).2 2 1 = q904 + 1) => ?_)
        have g4 : q904 = ((u_X3_readTaskNumber_1 x1 N σ).2 2 1 - 1) := by omega
        subst g4
        rw [(((hp h1).1 h2).2 h3).1.2]
        refine And.intro (fun _ => ?_) (fun (z : ¬ (0 : Int32) = 0) => absurd z (by decide))
        refine zCl.use (c_X8_put 16 (((u_X3_readTaskNumber_1 x1 N σ).2 2 1 - 1) + 4) x1 ((u_X3_readTaskNumber_1 x1 N σ).1 2 5) (u_X3_readTaskNumber_1 x1 N σ) (((hp h1).1 h2).2 h3).2) (Nat.le_of_ble_eq_true rfl) ?_
        rintro _ σz ⟨rfl, hz⟩
        subst σz
        exact And.intro rfl (And.intro rfl (And.intro (Or.inr rfl) ⟨by rw [r_X3_readTaskNumber, if_neg h1, if_neg h2, if_neg h3] <;> rfl, by rw [r_X3_readTaskNumber, if_neg h1, if_neg h2, if_neg h3] <;> rfl⟩))
      · exact And.intro rfl (And.intro rfl (And.intro (Or.inl rfl) ⟨by rw [r_X3_readTaskNumber, if_neg h1, if_neg h2, if_pos h3] <;> rfl, by rw [r_X3_readTaskNumber, if_neg h1, if_neg h2, if_pos h3] <;> rfl⟩))
    · refine And.intro (fun (z : (1 : Int32) = 0) => absurd z (by decide)) (fun _ => ?_)
      refine zCl.use (c_X6_next N σ ((hp h1).2 h2).1) (Nat.le_of_ble_eq_true rfl) ?_
      rintro _ σz ⟨rfl, hz⟩
      subst σz
      refine zCl.use (c_X3_readNumber 0 9999 N (u_X3_readTaskNumber_3 x1 N σ) ((hp h1).2 h2).2.1) (Nat.le_of_ble_eq_true rfl) ?_
      rintro _ σz ⟨rfl, hz⟩
      subst σz
      refine And.intro (fun (h5 : ¬ ((r_X3_readNumber 0 9999 N (u_X3_readTaskNumber_3 x1 N σ)).1) = 0) => ?_) (fun (h5 : ((r_X3_readNumber 0 9999 N (u_X3_readTaskNumber_3 x1 N σ)).1) = 0) => ?_)
      · refine And.intro (((hp h1).2 h2).2.2 h5).1.1 (fun q906 (e6 : (u_X3_readTaskNumber_4 x1 N σ).2 2 1 = q906 + 1) => ?_)
        have g6 : q906 = ((u_X3_readTaskNumber_4 x1 N σ).2 2 1 - 1) := by omega
        subst g6
        rw [(((hp h1).2 h2).2.2 h5).1.2]
        refine And.intro (fun (z : (1 : Int32) = 0) => absurd z (by decide)) (fun _ => ?_)
        refine zCl.use (c_X8_put 16 (((u_X3_readTaskNumber_4 x1 N σ).2 2 1 - 1) + 4) x1 (-((u_X3_readTaskNumber_4 x1 N σ).1 2 5)) (u_X3_readTaskNumber_4 x1 N σ) (((hp h1).2 h2).2.2 h5).2) (Nat.le_of_ble_eq_true rfl) ?_
        rintro _ σz ⟨rfl, hz⟩
        subst σz
        exact And.intro rfl (And.intro rfl (And.intro (Or.inr rfl) ⟨by rw [r_X3_readTaskNumber, if_neg h1, if_pos h2, if_neg h5] <;> rfl, by rw [r_X3_readTaskNumber, if_neg h1, if_pos h2, if_neg h5] <;> rfl⟩))
      · exact And.intro rfl (And.intro rfl (And.intro (Or.inl rfl) ⟨by rw [r_X3_readTaskNumber, if_neg h1, if_pos h2, if_pos h5] <;> rfl, by rw [r_X3_readTaskNumber, if_neg h1, if_pos h2, if_pos h5] <;> rfl⟩))
  · refine zCl.use (c_X3_refuse 5 (σ.1 3 3) σ) (Nat.le_of_ble_eq_true rfl) ?_
    rintro _ σz ⟨rfl, hz⟩
    subst σz
    exact And.intro rfl (And.intro rfl (And.intro b_X3_refuse ⟨by rw [r_X3_readTaskNumber, if_pos h1] <;> rfl, by rw [r_X3_readTaskNumber, if_pos h1] <;> rfl⟩))
theorem b_X3_readTaskNumber {x1 : Int32} {N : Nat} {σ : zS} : (r_X3_readTaskNumber x1 N σ).1 = 0 ∨ (r_X3_readTaskNumber x1 N σ).1 = 1 := by
  unfold r_X3_readTaskNumber
  (repeat' split) <;> first | exact Or.inl rfl | exact Or.inr rfl | exact b_X3_refuse
def u_X3_readTaskEnd_1 (N : Nat) (σ : zS) : zS := (r_X3_readSign 59 N σ).2
def u_X3_readTaskEnd_2 (N : Nat) (σ : zS) : zS := (r_X3_refuse 5 (σ.1 3 3) σ).2
def u_X3_readTaskEnd_3 (N : Nat) (σ : zS) : zS := (r_X3_refuse 2 (σ.1 3 3) σ).2
def u_X3_readTaskEnd_4 (N : Nat) (σ : zS) : zS := (r_X3_refuse 5 (σ.1 3 3) σ).2
def r_X3_readTaskEnd (N : Nat) (σ : zS) : Int32 × zS := if (σ.1 3 2) = 45 then ((r_X3_refuse 5 (σ.1 3 3) σ).1, (u_X3_readTaskEnd_4 N σ)) else (if (σ.1 3 2) = 302 then (if (σ.1 3 5) ≤ 9999 then ((r_X3_refuse 5 (σ.1 3 3) σ).1, (u_X3_readTaskEnd_2 N σ)) else ((r_X3_refuse 2 (σ.1 3 3) σ).1, (u_X3_readTaskEnd_3 N σ))) else ((r_X3_readSign 59 N σ).1, (u_X3_readTaskEnd_1 N σ)))
def p_X3_readTaskEnd (N : Nat) (σ : zS) : Prop := ¬ (σ.1 3 2) = 45 → (¬ (σ.1 3 2) = 302 → p_X3_readSign 59 N σ)
set_option maxRecDepth 100000 in
set_option maxHeartbeats 1000000 in
theorem c_X3_readTaskEnd {nx : Nat} (N : Nat) (σ : zS) (hp : p_X3_readTaskEnd N σ) : zCl 10 zall nx zall nx 43 [.inr (3, 12, 2)] σ (fun v σ1 => v = some (.inl ((r_X3_readTaskEnd N σ).1)) ∧ σ1 = (r_X3_readTaskEnd N σ).2) := by
  refine zmeth (cd := kX3_readTaskEnd) [] 1000 (Nat.le_of_ble_eq_true rfl) rfl okX3_readTaskEnd (Nat.le_refl _) (Nat.le_of_ble_eq_true rfl) ?_
  refine And.intro (fun (h1 : ¬ (σ.1 3 2) = 45) => ?_) (fun (h1 : (σ.1 3 2) = 45) => ?_)
  · refine And.intro (fun (h2 : ¬ (σ.1 3 2) = 302) => ?_) (fun (h2 : (σ.1 3 2) = 302) => ?_)
    · refine zCl.use (c_X3_readSign 59 N σ ((hp h1) h2)) (Nat.le_of_ble_eq_true rfl) ?_
      rintro _ σz ⟨rfl, hz⟩
      subst σz
      exact And.intro rfl (And.intro rfl (And.intro b_X3_readSign ⟨by rw [r_X3_readTaskEnd, if_neg h1, if_neg h2] <;> rfl, by rw [r_X3_readTaskEnd, if_neg h1, if_neg h2] <;> rfl⟩))
    · refine And.intro (fun (h3 : (σ.1 3 5) ≤ 9999) => ?_) (fun (h3 : ¬ (σ.1 3 5) ≤ 9999) => ?_)
      · refine zCl.use (c_X3_refuse 5 (σ.1 3 3) σ) (Nat.le_of_ble_eq_true rfl) ?_
        rintro _ σz ⟨rfl, hz⟩
        subst σz
        exact And.intro rfl (And.intro rfl (And.intro b_X3_refuse ⟨by rw [r_X3_readTaskEnd, if_neg h1, if_pos h2, if_pos h3] <;> rfl, by rw [r_X3_readTaskEnd, if_neg h1, if_pos h2, if_pos h3] <;> rfl⟩))
      · refine zCl.use (c_X3_refuse 2 (σ.1 3 3) σ) (Nat.le_of_ble_eq_true rfl) ?_
        rintro _ σz ⟨rfl, hz⟩
        subst σz
        exact And.intro rfl (And.intro rfl (And.intro b_X3_refuse ⟨by rw [r_X3_readTaskEnd, if_neg h1, if_pos h2, if_neg h3] <;> rfl, by rw [r_X3_readTaskEnd, if_neg h1, if_pos h2, if_neg h3] <;> rfl⟩))
  · refine zCl.use (c_X3_refuse 5 (σ.1 3 3) σ) (Nat.le_of_ble_eq_true rfl) ?_
    rintro _ σz ⟨rfl, hz⟩
    subst σz
    exact And.intro rfl (And.intro rfl (And.intro b_X3_refuse ⟨by rw [r_X3_readTaskEnd, if_pos h1] <;> rfl, by rw [r_X3_readTaskEnd, if_pos h1] <;> rfl⟩))
theorem b_X3_readTaskEnd {N : Nat} {σ : zS} : (r_X3_readTaskEnd N σ).1 = 0 ∨ (r_X3_readTaskEnd N σ).1 = 1 := by
  unfold r_X3_readTaskEnd
  (repeat' split) <;> first | exact Or.inl rfl | exact Or.inr rfl | exact b_X3_readSign | exact b_X3_refuse
def u_X4_playOn_h0_1 (o : Nat) (q1 : Nat) (N : Nat) (v2 : Int32) (v3 : Int32) (σ : zS) : zS := s_X4_takeEvent o q1 N σ
def l_X4_playOn (o : Nat) (q1 : Nat) (N : Nat) : Nat → Int32 → Int32 → zS → Int32 × zS
  | 0, _, _, σ => (0, σ)
  | n + 1, v2, v3, σ => if v2 ≤ v3 then (v3, σ) else (if (σ.1 o 7) = (-1) then (v3, σ) else (l_X4_playOn o q1 N n v2 (v3 + 1) (u_X4_playOn_h0_1 o q1 N v2 v3 σ)))
def q_X4_playOn (o : Nat) (q1 : Nat) (N : Nat) : Nat → Int32 → Int32 → zS → Prop
  | 0, _, _, _ => False
  | n + 1, v2, v3, σ => ¬ v2 ≤ v3 → (¬ (σ.1 o 7) = (-1) → (p_X4_takeEvent o q1 N σ ∧ q_X4_playOn o q1 N n v2 (v3 + 1) (u_X4_playOn_h0_1 o q1 N v2 v3 σ)))
set_option maxRecDepth 100000 in
set_option maxHeartbeats 1000000 in
theorem w_X4_playOn {nx : Nat} (o : Nat) (q1 : Nat) (N : Nat) : ∀ n : Nat, (∀ (v2 : Int32) (v3 : Int32) (σ : zS), q_X4_playOn o q1 N n v2 v3 σ → zWp 7 zall nx 63 (fun v σ1 => v = some (.inl ((l_X4_playOn o q1 N n v2 v3 σ).1)) ∧ σ1 = (l_X4_playOn o q1 N n v2 v3 σ).2) zall nx 2 [some (.inr (4, 17, o)), some (.inr (2, 16, q1)), some (.inl v2), some (.inl v3)] [] σ) := by
  intro n
  induction n with
  | zero => exact fun _ _ _ h => h.elim
  | succ n ih =>
    intro v2 v3 σ hp
    rw [q_X4_playOn] at hp
    refine zvc_sound (cd := kX4_playOn) (cs := [2]) rfl okX4_playOn 1000 _ _ 2 (zseek kX4_playOn 2) _ _ _ zseek_sub ?_
    refine And.intro (fun (h1 : v2 ≤ v3) => ?_) (fun (h1 : ¬ v2 ≤ v3) => ?_)
    · exact And.intro rfl (And.intro rfl ⟨by rw [l_X4_playOn, if_pos h1] <;> rfl, by rw [l_X4_playOn, if_pos h1] <;> rfl⟩)
    · refine And.intro (fun (h2 : (σ.1 o 7) = (-1)) => ?_) (fun (h2 : ¬ (σ.1 o 7) = (-1)) => ?_)
      · exact And.intro rfl (And.intro rfl ⟨by rw [l_X4_playOn, if_neg h1, if_pos h2] <;> rfl, by rw [l_X4_playOn, if_neg h1, if_pos h2] <;> rfl⟩)
      · refine zCl.use (c_X4_takeEvent o q1 N σ ((hp h1) h2).1) (Nat.le_of_ble_eq_true rfl) ?_
        rintro _ σz ⟨rfl, hz⟩
        subst σz
        refine zWp.use (ih v2 (v3 + 1) (u_X4_playOn_h0_1 o q1 N v2 v3 σ) ((hp h1) h2).2) (And.intro rfl (And.intro rfl (And.intro rfl (And.intro rfl trivial)))) (fun vy σy hy => ?_)
        rw [l_X4_playOn, if_neg h1, if_neg h2]; exact hy
def r_X4_playOn (o : Nat) (q1 : Nat) (x2 : Int32) (N : Nat) (σ : zS) : Int32 × zS := l_X4_playOn o q1 N N x2 0 σ
def p_X4_playOn (o : Nat) (q1 : Nat) (x2 : Int32) (N : Nat) (σ : zS) : Prop := q_X4_playOn o q1 N N x2 0 σ
set_option maxRecDepth 100000 in
set_option maxHeartbeats 1000000 in
theorem c_X4_playOn {nx : Nat} (o : Nat) (q1 : Nat) (x2 : Int32) (N : Nat) (σ : zS) (hp : p_X4_playOn o q1 x2 N σ) : zCl 7 zall nx zall nx 63 [.inr (4, 17, o), .inr (2, 16, q1), .inl x2] σ (fun v σ1 => v = some (.inl ((r_X4_playOn o q1 x2 N σ).1)) ∧ σ1 = (r_X4_playOn o q1 x2 N σ).2) := by
  refine zmeth (cd := kX4_playOn) [2] 1000 (Nat.le_of_ble_eq_true rfl) rfl okX4_playOn (Nat.le_refl _) (Nat.le_of_ble_eq_true rfl) ?_
  refine zWp.use ((w_X4_playOn o q1 N N) x2 0 σ hp) (And.intro rfl (And.intro rfl (And.intro rfl (And.intro rfl trivial)))) (fun vy σy hy => ?_)
  rw [r_X4_playOn]; exact hy
def u_X4_playBelow_h0_1 (o : Nat) (q1 : Nat) (N : Nat) (v2 : Int32) (v3 : Int32) (σ : zS) : zS := s_X4_takeEvent o q1 N σ
def l_X4_playBelow (o : Nat) (q1 : Nat) (N : Nat) : Nat → Int32 → Int32 → zS → zS
  | 0, _, _, σ => σ
  | n + 1, v2, v3, σ => if 3000 ≤ v3 then σ else (if (σ.1 o 7) = (-1) then σ else (if v2 ≤ (f_X4_cost o σ) then σ else (l_X4_playBelow o q1 N n v2 (v3 + 1) (u_X4_playBelow_h0_1 o q1 N v2 v3 σ))))
def q_X4_playBelow (o : Nat) (q1 : Nat) (N : Nat) : Nat → Int32 → Int32 → zS → Prop
  | 0, _, _, _ => False
  | n + 1, v2, v3, σ => ¬ 3000 ≤ v3 → (¬ (σ.1 o 7) = (-1) → (¬ v2 ≤ (f_X4_cost o σ) → (p_X4_takeEvent o q1 N σ ∧ q_X4_playBelow o q1 N n v2 (v3 + 1) (u_X4_playBelow_h0_1 o q1 N v2 v3 σ))))
set_option maxRecDepth 100000 in
set_option maxHeartbeats 1000000 in
theorem w_X4_playBelow {nx : Nat} (o : Nat) (q1 : Nat) (N : Nat) : ∀ n : Nat, (∀ (v2 : Int32) (v3 : Int32) (σ : zS), q_X4_playBelow o q1 N n v2 v3 σ → zWp 7 zall nx 64 (fun v σ1 => v = none ∧ σ1 = l_X4_playBelow o q1 N n v2 v3 σ) zall nx 2 [some (.inr (4, 17, o)), some (.inr (2, 16, q1)), some (.inl v2), some (.inl v3)] [] σ) := by
  intro n
  induction n with
  | zero => exact fun _ _ _ h => h.elim
  | succ n ih =>
    intro v2 v3 σ hp
    rw [q_X4_playBelow] at hp
    refine zvc_sound (cd := kX4_playBelow) (cs := [2]) rfl okX4_playBelow 1000 _ _ 2 (zseek kX4_playBelow 2) _ _ _ zseek_sub ?_
    refine And.intro (fun (h1 : 3000 ≤ v3) => ?_) (fun (h1 : ¬ 3000 ≤ v3) => ?_)
    · exact And.intro rfl (And.intro rfl ⟨rfl, by rw [l_X4_playBelow, if_pos h1] <;> rfl⟩)
    · refine And.intro (fun (h2 : (σ.1 o 7) = (-1)) => ?_) (fun (h2 : ¬ (σ.1 o 7) = (-1)) => ?_)
      · exact And.intro rfl (And.intro rfl ⟨rfl, by rw [l_X4_playBelow, if_neg h1, if_pos h2] <;> rfl⟩)
      · refine zCl.use (c_X4_cost o σ) (Nat.le_of_ble_eq_true rfl) ?_
        rintro _ σz ⟨rfl, hz⟩
        subst σz
        refine And.intro (fun (h3 : v2 ≤ (f_X4_cost o σ)) => ?_) (fun (h3 : ¬ v2 ≤ (f_X4_cost o σ)) => ?_)
        · exact And.intro rfl (And.intro rfl ⟨rfl, by rw [l_X4_playBelow, if_neg h1, if_neg h2, if_pos h3] <;> rfl⟩)
        · refine zCl.use (c_X4_takeEvent o q1 N σ (((hp h1) h2) h3).1) (Nat.le_of_ble_eq_true rfl) ?_
          rintro _ σz ⟨rfl, hz⟩
          subst σz
          refine zWp.use (ih v2 (v3 + 1) (u_X4_playBelow_h0_1 o q1 N v2 v3 σ) (((hp h1) h2) h3).2) (And.intro rfl (And.intro rfl (And.intro rfl (And.intro rfl trivial)))) (fun vy σy hy => ?_)
          rw [l_X4_playBelow, if_neg h1, if_neg h2, if_neg h3]; exact hy
def s_X4_playBelow (o : Nat) (q1 : Nat) (x2 : Int32) (N : Nat) (σ : zS) : zS := l_X4_playBelow o q1 N N x2 0 σ
def p_X4_playBelow (o : Nat) (q1 : Nat) (x2 : Int32) (N : Nat) (σ : zS) : Prop := q_X4_playBelow o q1 N N x2 0 σ
set_option maxRecDepth 100000 in
set_option maxHeartbeats 1000000 in
theorem c_X4_playBelow {nx : Nat} (o : Nat) (q1 : Nat) (x2 : Int32) (N : Nat) (σ : zS) (hp : p_X4_playBelow o q1 x2 N σ) : zCl 7 zall nx zall nx 64 [.inr (4, 17, o), .inr (2, 16, q1), .inl x2] σ (fun v σ1 => v = none ∧ σ1 = s_X4_playBelow o q1 x2 N σ) := by
  refine zmeth (cd := kX4_playBelow) [2] 1000 (Nat.le_of_ble_eq_true rfl) rfl okX4_playBelow (Nat.le_refl _) (Nat.le_of_ble_eq_true rfl) ?_
  refine zWp.use ((w_X4_playBelow o q1 N N) x2 0 σ hp) (And.intro rfl (And.intro rfl (And.intro rfl (And.intro rfl trivial)))) (fun vy σy hy => ?_)
  rw [s_X4_playBelow]; exact hy
def u_X6_open_1 (n1 : Nat) (q1 : Nat) (x2 : Int32) (N : Nat) (σ : zS) : zS := zuR σ 3 0 (q1 + 1)
def u_X6_open_2 (n1 : Nat) (q1 : Nat) (x2 : Int32) (N : Nat) (σ : zS) : zS := zuI (u_X6_open_1 n1 q1 x2 N σ) 3 1 (if (Int32.ofNat ((zlay ((u_X6_open_1 n1 q1 x2 N σ).2 3 0 - 1)).2)) < x2 then (Int32.ofNat ((zlay ((u_X6_open_1 n1 q1 x2 N σ).2 3 0 - 1)).2)) else x2)
def u_X6_open_3 (n1 : Nat) (q1 : Nat) (x2 : Int32) (N : Nat) (σ : zS) : zS := zuI (u_X6_open_2 n1 q1 x2 N σ) 3 4 0
def u_X6_open_4 (n1 : Nat) (q1 : Nat) (x2 : Int32) (N : Nat) (σ : zS) : zS := s_X6_next N (u_X6_open_3 n1 q1 x2 N σ)
def s_X6_open (n1 : Nat) (q1 : Nat) (x2 : Int32) (N : Nat) (σ : zS) : zS := (u_X6_open_4 n1 q1 x2 N σ)
def p_X6_open (n1 : Nat) (q1 : Nat) (x2 : Int32) (N : Nat) (σ : zS) : Prop := q1 < 1000003 ∧ (((u_X6_open_1 n1 q1 x2 N σ).2 3 0 ≠ 0 ∧ (zlay ((u_X6_open_1 n1 q1 x2 N σ).2 3 0 - 1)).1 = 20) ∧ p_X6_next N (u_X6_open_3 n1 q1 x2 N σ))
set_option maxRecDepth 100000 in
set_option maxHeartbeats 1000000 in
theorem c_X6_open {cp : Nat → Bool} {nx : Nat} (n1 : Nat) (q1 : Nat) (x2 : Int32) (N : Nat) (σ : zS) (hp : p_X6_open n1 q1 x2 N σ) : zCl 9 cp nx cp nx 91 [.inr (6, 6, 3), .inr (20, n1, q1), .inl x2] σ (fun v σ1 => v = none ∧ σ1 = s_X6_open n1 q1 x2 N σ) := by
  refine zmeth (cd := kX6_open) [] 1000 (Nat.le_of_ble_eq_true rfl) rfl okX6_open (Nat.le_refl _) (Nat.le_of_ble_eq_true rfl) ?_
  refine And.intro hp.1 ?_
  refine And.intro hp.2.1.1 (fun q901 (e1 : (u_X6_open_1 n1 q1 x2 N σ).2 3 0 = q901 + 1) => ?_)
  have g1 : q901 = ((u_X6_open_1 n1 q1 x2 N σ).2 3 0 - 1) := by omega
  rw [g1]
  rw [hp.2.1.2]
  refine zCl.use (c_X6_next N (u_X6_open_3 n1 q1 x2 N σ) hp.2.2) (Nat.le_of_ble_eq_true rfl) ?_
  rintro _ σz ⟨rfl, hz⟩
  subst σz
  exact And.intro rfl (And.intro rfl ⟨rfl, by rw [s_X6_open] <;> rfl⟩)
def u_X8_run_1 (x1 : Int32) (N : Nat) (σ : zS) : zS := (r_X1_nextAct N σ).2
def u_X8_run_2 (x1 : Int32) (N : Nat) (σ : zS) : zS := (r_X4_playOn ((r_X1_nextAct N σ).1) ((u_X8_run_1 x1 N σ).2 0 5 - 1) x1 N (u_X8_run_1 x1 N σ)).2
def r_X8_run (x1 : Int32) (N : Nat) (σ : zS) : Int32 × zS := if x1 < 1 then (-1, σ) else (if x1 ≤ 500 then (if (σ.1 (f_X1_now σ) 7) = (-1) then (0, σ) else ((r_X4_playOn ((r_X1_nextAct N σ).1) ((u_X8_run_1 x1 N σ).2 0 5 - 1) x1 N (u_X8_run_1 x1 N σ)).1, (u_X8_run_2 x1 N σ))) else (-1, σ))
def p_X8_run (x1 : Int32) (N : Nat) (σ : zS) : Prop := ¬ x1 < 1 → (x1 ≤ 500 → (p_X1_now σ ∧ (¬ (σ.1 (f_X1_now σ) 7) = (-1) → (p_X1_nextAct N σ ∧ (((u_X8_run_1 x1 N σ).2 0 5 ≠ 0 ∧ zlay ((u_X8_run_1 x1 N σ).2 0 5 - 1) = (2, 16)) ∧ p_X4_playOn ((r_X1_nextAct N σ).1) ((u_X8_run_1 x1 N σ).2 0 5 - 1) x1 N (u_X8_run_1 x1 N σ))))))
set_option maxRecDepth 100000 in
set_option maxHeartbeats 1000000 in
theorem c_X8_run {nx : Nat} (x1 : Int32) (N : Nat) (σ : zS) (hp : p_X8_run x1 N σ) : zCl 8 zall nx zall nx 113 [.inr (8, 16, 0), .inl x1] σ (fun v σ1 => v = some (.inl ((r_X8_run x1 N σ).1)) ∧ σ1 = (r_X8_run x1 N σ).2) := by
  refine zmeth (cd := kX8_run) [] 1000 (Nat.le_of_ble_eq_true rfl) rfl okX8_run (Nat.le_refl _) (Nat.le_of_ble_eq_true rfl) ?_
  refine And.intro (fun (h1 : x1 < 1) => ?_) (fun (h1 : ¬ x1 < 1) => ?_)
  · exact And.intro rfl (And.intro rfl ⟨by rw [r_X8_run, if_pos h1] <;> rfl, by rw [r_X8_run, if_pos h1] <;> rfl⟩)
  · refine And.intro (fun (h2 : x1 ≤ 500) => ?_) (fun (h2 : ¬ x1 ≤ 500) => ?_)
    · refine zCl.use (c_X1_now σ ((hp h1) h2).1) (Nat.le_of_ble_eq_true rfl) ?_
      rintro _ σz ⟨rfl, hz⟩
      subst σz
      refine And.intro (fun (h3 : ¬ (σ.1 (f_X1_now σ) 7) = (-1)) => ?_) (fun (h3 : (σ.1 (f_X1_now σ) 7) = (-1)) => ?_)
      · refine zCl.use (c_X1_nextAct N σ (((hp h1) h2).2 h3).1) (Nat.le_of_ble_eq_true rfl) ?_
        rintro _ σz ⟨rfl, hz⟩
        subst σz
        refine And.intro (((hp h1) h2).2 h3).2.1.1 (fun q904 (e4 : (u_X8_run_1 x1 N σ).2 0 5 = q904 + 1) => ?_)
        have g4 : q904 = ((u_X8_run_1 x1 N σ).2 0 5 - 1) := by omega
        subst g4
        rw [(((hp h1) h2).2 h3).2.1.2]
        refine zCl.use (c_X4_playOn ((r_X1_nextAct N σ).1) ((u_X8_run_1 x1 N σ).2 0 5 - 1) x1 N (u_X8_run_1 x1 N σ) (((hp h1) h2).2 h3).2.2) (Nat.le_of_ble_eq_true rfl) ?_
        rintro _ σz ⟨rfl, hz⟩
        subst σz
        exact And.intro rfl (And.intro rfl ⟨by rw [r_X8_run, if_neg h1, if_pos h2, if_neg h3] <;> rfl, by rw [r_X8_run, if_neg h1, if_pos h2, if_neg h3] <;> rfl⟩)
      · exact And.intro rfl (And.intro rfl ⟨by rw [r_X8_run, if_neg h1, if_pos h2, if_pos h3] <;> rfl, by rw [r_X8_run, if_neg h1, if_pos h2, if_pos h3] <;> rfl⟩)
    · exact And.intro rfl (And.intro rfl ⟨by rw [r_X8_run, if_neg h1, if_neg h2] <;> rfl, by rw [r_X8_run, if_neg h1, if_neg h2] <;> rfl⟩)
def u_X8_alone_1 (x1 : Int32) (x2 : Int32) (x3 : Int32) (x4 : Int32) (N : Nat) (σ : zS) : zS := s_X4_startAnew 359 (σ.2 0 5 - 1) N σ
def u_X8_alone_2 (x1 : Int32) (x2 : Int32) (x3 : Int32) (x4 : Int32) (N : Nat) (σ : zS) : zS := s_X4_leaveAlone 359 x1 N (u_X8_alone_1 x1 x2 x3 x4 N σ)
def u_X8_alone_3 (x1 : Int32) (x2 : Int32) (x3 : Int32) (x4 : Int32) (N : Nat) (σ : zS) : zS := s_X4_changeHandler 359 x2 x3 N (u_X8_alone_2 x1 x2 x3 x4 N σ)
def u_X8_alone_4 (x1 : Int32) (x2 : Int32) (x3 : Int32) (x4 : Int32) (N : Nat) (σ : zS) : zS := (r_X4_playOn 359 ((u_X8_alone_3 x1 x2 x3 x4 N σ).2 0 5 - 1) 2000 N (u_X8_alone_3 x1 x2 x3 x4 N σ)).2
def u_X8_alone_5 (x1 : Int32) (x2 : Int32) (x3 : Int32) (x4 : Int32) (N : Nat) (σ : zS) : zS := zuI (u_X8_alone_4 x1 x2 x3 x4 N σ) 359 4 ((u_X8_alone_4 x1 x2 x3 x4 N σ).1 (f_X1_now (u_X8_alone_4 x1 x2 x3 x4 N σ)) 4)
def u_X8_alone_6 (x1 : Int32) (x2 : Int32) (x3 : Int32) (x4 : Int32) (N : Nat) (σ : zS) : zS := zuI (u_X8_alone_5 x1 x2 x3 x4 N σ) 359 5 ((u_X8_alone_5 x1 x2 x3 x4 N σ).1 (f_X1_now (u_X8_alone_4 x1 x2 x3 x4 N σ)) 5)
def r_X8_alone (x1 : Int32) (x2 : Int32) (x3 : Int32) (x4 : Int32) (N : Nat) (σ : zS) : Int32 × zS := if (f_X8_isTask x1 σ) = 0 then (-1, σ) else (if (f_X8_handlerCanBe x2 x3) = 0 then (-1, σ) else (if x4 < 0 then (-1, σ) else (if x4 ≤ 2 then (if ((u_X8_alone_4 x1 x2 x3 x4 N σ).1 (f_X4_taskAt 359 x1 (u_X8_alone_4 x1 x2 x3 x4 N σ)) 1) = 2 then (if x4 = 0 then (f_X4_cost 359 (u_X8_alone_6 x1 x2 x3 x4 N σ), (u_X8_alone_6 x1 x2 x3 x4 N σ)) else (if x4 = 1 then ((u_X8_alone_6 x1 x2 x3 x4 N σ).1 359 10, (u_X8_alone_6 x1 x2 x3 x4 N σ)) else ((u_X8_alone_6 x1 x2 x3 x4 N σ).1 359 11, (u_X8_alone_6 x1 x2 x3 x4 N σ)))) else (-1, (u_X8_alone_4 x1 x2 x3 x4 N σ))) else (-1, σ))))
def p_X8_alone (x1 : Int32) (x2 : Int32) (x3 : Int32) (x4 : Int32) (N : Nat) (σ : zS) : Prop := p_X8_isTask x1 σ ∧ (¬ (f_X8_isTask x1 σ) = 0 → (¬ (f_X8_handlerCanBe x2 x3) = 0 → (¬ x4 < 0 → (x4 ≤ 2 → ((σ.2 0 5 ≠ 0 ∧ zlay (σ.2 0 5 - 1) = (2, 16)) ∧ (p_X4_startAnew 359 (σ.2 0 5 - 1) N σ ∧ (p_X4_leaveAlone 359 x1 N (u_X8_alone_1 x1 x2 x3 x4 N σ) ∧ (p_X4_changeHandler 359 x2 x3 N (u_X8_alone_2 x1 x2 x3 x4 N σ) ∧ (((u_X8_alone_3 x1 x2 x3 x4 N σ).2 0 5 ≠ 0 ∧ zlay ((u_X8_alone_3 x1 x2 x3 x4 N σ).2 0 5 - 1) = (2, 16)) ∧ (p_X4_playOn 359 ((u_X8_alone_3 x1 x2 x3 x4 N σ).2 0 5 - 1) 2000 N (u_X8_alone_3 x1 x2 x3 x4 N σ) ∧ (p_X4_taskAt 359 x1 (u_X8_alone_4 x1 x2 x3 x4 N σ) ∧ (((u_X8_alone_4 x1 x2 x3 x4 N σ).1 (f_X4_taskAt 359 x1 (u_X8_alone_4 x1 x2 x3 x4 N σ)) 1) = 2 → p_X1_now (u_X8_alone_4 x1 x2 x3 x4 N σ)))))))))))))
set_option maxRecDepth 100000 in
set_option maxHeartbeats 1000000 in
theorem c_X8_alone {nx : Nat} (x1 : Int32) (x2 : Int32) (x3 : Int32) (x4 : Int32) (N : Nat) (σ : zS) (hp : p_X8_alone x1 x2 x3 x4 N σ) : zCl 8 zall nx zall nx 129 [.inr (8, 16, 0), .inl x1, .inl x2, .inl x3, .inl x4] σ (fun v σ1 => v = some (.inl ((r_X8_alone x1 x2 x3 x4 N σ).1)) ∧ σ1 = (r_X8_alone x1 x2 x3 x4 N σ).2) := by
  refine zmeth (cd := kX8_alone) [] 1000 (Nat.le_of_ble_eq_true rfl) rfl okX8_alone (Nat.le_refl _) (Nat.le_of_ble_eq_true rfl) ?_
  refine zCl.use (c_X8_isTask x1 σ hp.1) (Nat.le_of_ble_eq_true rfl) ?_
  rintro _ σz ⟨rfl, hz⟩
  subst σz
  refine And.intro (fun (h1 : (f_X8_isTask x1 σ) = 0) => ?_) (fun (h1 : ¬ (f_X8_isTask x1 σ) = 0) => ?_)
  · exact And.intro rfl (And.intro rfl ⟨by rw [r_X8_alone, if_pos h1] <;> rfl, by rw [r_X8_alone, if_pos h1] <;> rfl⟩)
  · refine zCl.use (c_X8_handlerCanBe x2 x3 σ) (Nat.le_of_ble_eq_true rfl) ?_
    rintro _ σz ⟨rfl, hz⟩
    subst σz
    refine And.intro (fun (h2 : (f_X8_handlerCanBe x2 x3) = 0) => ?_) (fun (h2 : ¬ (f_X8_handlerCanBe x2 x3) = 0) => ?_)
    · exact And.intro rfl (And.intro rfl ⟨by rw [r_X8_alone, if_neg h1, if_pos h2] <;> rfl, by rw [r_X8_alone, if_neg h1, if_pos h2] <;> rfl⟩)
    · refine And.intro (fun (h3 : x4 < 0) => ?_) (fun (h3 : ¬ x4 < 0) => ?_)
      · exact And.intro rfl (And.intro rfl ⟨by rw [r_X8_alone, if_neg h1, if_neg h2, if_pos h3] <;> rfl, by rw [r_X8_alone, if_neg h1, if_neg h2, if_pos h3] <;> rfl⟩)
      · refine And.intro (fun (h4 : x4 ≤ 2) => ?_) (fun (h4 : ¬ x4 ≤ 2) => ?_)
        · refine And.intro ((((hp.2 h1) h2) h3) h4).1.1 (fun q905 (e5 : σ.2 0 5 = q905 + 1) => ?_)
          have g5 : q905 = (σ.2 0 5 - 1) := by omega
          subst g5
          rw [((((hp.2 h1) h2) h3) h4).1.2]
          refine zCl.use (c_X4_startAnew 359 (σ.2 0 5 - 1) N σ ((((hp.2 h1) h2) h3) h4).2.1) (Nat.le_of_ble_eq_true rfl) ?_
          rintro _ σz ⟨rfl, hz⟩
          subst σz
          refine zCl.use (c_X4_leaveAlone 359 x1 N (u_X8_alone_1 x1 x2 x3 x4 N σ) ((((hp.2 h1) h2) h3) h4).2.2.1) (Nat.le_of_ble_eq_true rfl) ?_
          rintro _ σz ⟨rfl, hz⟩
          subst σz
          refine zCl.use (c_X4_changeHandler 359 x2 x3 N (u_X8_alone_2 x1 x2 x3 x4 N σ) ((((hp.2 h1) h2) h3) h4).2.2.2.1) (Nat.le_of_ble_eq_true rfl) ?_
          rintro _ σz ⟨rfl, hz⟩
          subst σz
          refine And.intro ((((hp.2 h1) h2) h3) h4).2.2.2.2.1.1 (fun q906 (e6 : (u_X8_alone_3 x1 x2 x3 x4 N σ).2 0 5 = q906 + 1) => ?_)
          have g6 : q906 = ((u_X8_alone_3 x1 x2 x3 x4 N σ).2 0 5 - 1) := by omega
          subst g6
          rw [((((hp.2 h1) h2) h3) h4).2.2.2.2.1.2]
          refine zCl.use (c_X4_playOn 359 ((u_X8_alone_3 x1 x2 x3 x4 N σ).2 0 5 - 1) 2000 N (u_X8_alone_3 x1 x2 x3 x4 N σ) ((((hp.2 h1) h2) h3) h4).2.2.2.2.2.1) (Nat.le_of_ble_eq_true rfl) ?_
          rintro _ σz ⟨rfl, hz⟩
          subst σz
          refine zCl.use (c_X4_taskAt 359 x1 (u_X8_alone_4 x1 x2 x3 x4 N σ) ((((hp.2 h1) h2) h3) h4).2.2.2.2.2.2.1) (Nat.le_of_ble_eq_true rfl) ?_
          rintro _ σz ⟨rfl, hz⟩
          subst σz
          refine And.intro (fun (h7 : ((u_X8_alone_4 x1 x2 x3 x4 N σ).1 (f_X4_taskAt 359 x1 (u_X8_alone_4 x1 x2 x3 x4 N σ)) 1) = 2) => ?_) (fun (h7 : ¬ ((u_X8_alone_4 x1 x2 x3 x4 N σ).1 (f_X4_taskAt 359 x1 (u_X8_alone_4 x1 x2 x3 x4 N σ)) 1) = 2) => ?_)
          · refine zCl.use (c_X1_now (u_X8_alone_4 x1 x2 x3 x4 N σ) (((((hp.2 h1) h2) h3) h4).2.2.2.2.2.2.2 h7)) (Nat.le_of_ble_eq_true rfl) ?_
            rintro _ σz ⟨rfl, hz⟩
            subst σz
            refine And.intro (fun (h8 : ¬ x4 = 0) => ?_) (fun (h8 : x4 = 0) => ?_)
            · refine And.intro (fun (h9 : ¬ x4 = 1) => ?_) (fun (h9 : x4 = 1) => ?_)
              · exact And.intro rfl (And.intro rfl ⟨by rw [r_X8_alone, if_neg h1, if_neg h2, if_neg h3, if_pos h4, if_pos h7, if_neg h8, if_neg h9] <;> rfl, by rw [r_X8_alone, if_neg h1, if_neg h2, if_neg h3, if_pos h4, if_pos h7, if_neg h8, if_neg h9] <;> rfl⟩)
              · exact And.intro rfl (And.intro rfl ⟨by rw [r_X8_alone, if_neg h1, if_neg h2, if_neg h3, if_pos h4, if_pos h7, if_neg h8, if_pos h9] <;> rfl, by rw [r_X8_alone, if_neg h1, if_neg h2, if_neg h3, if_pos h4, if_pos h7, if_neg h8, if_pos h9] <;> rfl⟩)
            · refine zCl.use (c_X4_cost 359 (u_X8_alone_6 x1 x2 x3 x4 N σ)) (Nat.le_of_ble_eq_true rfl) ?_
              rintro _ σz ⟨rfl, hz⟩
              subst σz
              exact And.intro rfl (And.intro rfl ⟨by rw [r_X8_alone, if_neg h1, if_neg h2, if_neg h3, if_pos h4, if_pos h7, if_pos h8] <;> rfl, by rw [r_X8_alone, if_neg h1, if_neg h2, if_neg h3, if_pos h4, if_pos h7, if_pos h8] <;> rfl⟩)
          · exact And.intro rfl (And.intro rfl ⟨by rw [r_X8_alone, if_neg h1, if_neg h2, if_neg h3, if_pos h4, if_neg h7] <;> rfl, by rw [r_X8_alone, if_neg h1, if_neg h2, if_neg h3, if_pos h4, if_neg h7] <;> rfl⟩)
        · exact And.intro rfl (And.intro rfl ⟨by rw [r_X8_alone, if_neg h1, if_neg h2, if_neg h3, if_neg h4] <;> rfl, by rw [r_X8_alone, if_neg h1, if_neg h2, if_neg h3, if_neg h4] <;> rfl⟩)
def u_X8_would_1 (x1 : Int32) (x2 : Int32) (x3 : Int32) (N : Nat) (σ : zS) : zS := s_X4_copyFrom 359 (f_X1_now σ) N σ
def u_X8_would_2 (x1 : Int32) (x2 : Int32) (x3 : Int32) (N : Nat) (σ : zS) : zS := s_X4_changeHandler 359 x1 x2 N (u_X8_would_1 x1 x2 x3 N σ)
def u_X8_would_3 (x1 : Int32) (x2 : Int32) (x3 : Int32) (N : Nat) (σ : zS) : zS := (r_X4_playOn 359 ((u_X8_would_2 x1 x2 x3 N σ).2 0 5 - 1) 3000 N (u_X8_would_2 x1 x2 x3 N σ)).2
def r_X8_would (x1 : Int32) (x2 : Int32) (x3 : Int32) (N : Nat) (σ : zS) : Int32 × zS := if (f_X8_handlerCanBe x1 x2) = 0 then (-1, σ) else (if x3 < 0 then (-1, σ) else (if x3 ≤ 3 then (if x3 = 0 then ((f_X4_cost 359 (u_X8_would_3 x1 x2 x3 N σ)) - (f_X4_cost (f_X1_now σ) (u_X8_would_3 x1 x2 x3 N σ)), (u_X8_would_3 x1 x2 x3 N σ)) else (if x3 = 1 then (((u_X8_would_3 x1 x2 x3 N σ).1 359 10) - ((u_X8_would_3 x1 x2 x3 N σ).1 (f_X1_now σ) 10), (u_X8_would_3 x1 x2 x3 N σ)) else (if x3 = 2 then (((u_X8_would_3 x1 x2 x3 N σ).1 359 11) - ((u_X8_would_3 x1 x2 x3 N σ).1 (f_X1_now σ) 11), (u_X8_would_3 x1 x2 x3 N σ)) else (((u_X8_would_3 x1 x2 x3 N σ).1 359 9) - ((u_X8_would_3 x1 x2 x3 N σ).1 (f_X1_now σ) 9), (u_X8_would_3 x1 x2 x3 N σ))))) else (-1, σ)))
def p_X8_would (x1 : Int32) (x2 : Int32) (x3 : Int32) (N : Nat) (σ : zS) : Prop := ¬ (f_X8_handlerCanBe x1 x2) = 0 → (¬ x3 < 0 → (x3 ≤ 3 → (p_X1_now σ ∧ (p_X4_copyFrom 359 (f_X1_now σ) N σ ∧ (p_X4_changeHandler 359 x1 x2 N (u_X8_would_1 x1 x2 x3 N σ) ∧ (((u_X8_would_2 x1 x2 x3 N σ).2 0 5 ≠ 0 ∧ zlay ((u_X8_would_2 x1 x2 x3 N σ).2 0 5 - 1) = (2, 16)) ∧ p_X4_playOn 359 ((u_X8_would_2 x1 x2 x3 N σ).2 0 5 - 1) 3000 N (u_X8_would_2 x1 x2 x3 N σ)))))))
set_option maxRecDepth 100000 in
set_option maxHeartbeats 1000000 in
theorem c_X8_would {nx : Nat} (x1 : Int32) (x2 : Int32) (x3 : Int32) (N : Nat) (σ : zS) (hp : p_X8_would x1 x2 x3 N σ) : zCl 8 zall nx zall nx 132 [.inr (8, 16, 0), .inl x1, .inl x2, .inl x3] σ (fun v σ1 => v = some (.inl ((r_X8_would x1 x2 x3 N σ).1)) ∧ σ1 = (r_X8_would x1 x2 x3 N σ).2) := by
  refine zmeth (cd := kX8_would) [] 1000 (Nat.le_of_ble_eq_true rfl) rfl okX8_would (Nat.le_refl _) (Nat.le_of_ble_eq_true rfl) ?_
  refine zCl.use (c_X8_handlerCanBe x1 x2 σ) (Nat.le_of_ble_eq_true rfl) ?_
  rintro _ σz ⟨rfl, hz⟩
  subst σz
  refine And.intro (fun (h1 : (f_X8_handlerCanBe x1 x2) = 0) => ?_) (fun (h1 : ¬ (f_X8_handlerCanBe x1 x2) = 0) => ?_)
  · exact And.intro rfl (And.intro rfl ⟨by rw [r_X8_would, if_pos h1] <;> rfl, by rw [r_X8_would, if_pos h1] <;> rfl⟩)
  · refine And.intro (fun (h2 : x3 < 0) => ?_) (fun (h2 : ¬ x3 < 0) => ?_)
    · exact And.intro rfl (And.intro rfl ⟨by rw [r_X8_would, if_neg h1, if_pos h2] <;> rfl, by rw [r_X8_would, if_neg h1, if_pos h2] <;> rfl⟩)
    · refine And.intro (fun (h3 : x3 ≤ 3) => ?_) (fun (h3 : ¬ x3 ≤ 3) => ?_)
      · refine zCl.use (c_X1_now σ (((hp h1) h2) h3).1) (Nat.le_of_ble_eq_true rfl) ?_
        rintro _ σz ⟨rfl, hz⟩
        subst σz
        refine zCl.use (c_X4_copyFrom 359 (f_X1_now σ) N σ (((hp h1) h2) h3).2.1) (Nat.le_of_ble_eq_true rfl) ?_
        rintro _ σz ⟨rfl, hz⟩
        subst σz
        refine zCl.use (c_X4_changeHandler 359 x1 x2 N (u_X8_would_1 x1 x2 x3 N σ) (((hp h1) h2) h3).2.2.1) (Nat.le_of_ble_eq_true rfl) ?_
        rintro _ σz ⟨rfl, hz⟩
        subst σz
        refine And.intro (((hp h1) h2) h3).2.2.2.1.1 (fun q904 (e4 : (u_X8_would_2 x1 x2 x3 N σ).2 0 5 = q904 + 1) => ?_)
        have g4 : q904 = ((u_X8_would_2 x1 x2 x3 N σ).2 0 5 - 1) := by omega
        subst g4
        rw [(((hp h1) h2) h3).2.2.2.1.2]
        refine zCl.use (c_X4_playOn 359 ((u_X8_would_2 x1 x2 x3 N σ).2 0 5 - 1) 3000 N (u_X8_would_2 x1 x2 x3 N σ) (((hp h1) h2) h3).2.2.2.2) (Nat.le_of_ble_eq_true rfl) ?_
        rintro _ σz ⟨rfl, hz⟩
        subst σz
        refine And.intro (fun (h5 : x3 = 0) => ?_) (fun (h5 : ¬ x3 = 0) => ?_)
        · refine zCl.use (c_X4_cost 359 (u_X8_would_3 x1 x2 x3 N σ)) (Nat.le_of_ble_eq_true rfl) ?_
          rintro _ σz ⟨rfl, hz⟩
          subst σz
          refine zCl.use (c_X4_cost (f_X1_now σ) (u_X8_would_3 x1 x2 x3 N σ)) (Nat.le_of_ble_eq_true rfl) ?_
          rintro _ σz ⟨rfl, hz⟩
          subst σz
          exact And.intro rfl (And.intro rfl ⟨by rw [r_X8_would, if_neg h1, if_neg h2, if_pos h3, if_pos h5] <;> rfl, by rw [r_X8_would, if_neg h1, if_neg h2, if_pos h3, if_pos h5] <;> rfl⟩)
        · refine And.intro (fun (h6 : x3 = 1) => ?_) (fun (h6 : ¬ x3 = 1) => ?_)
          · exact And.intro rfl (And.intro rfl ⟨by rw [r_X8_would, if_neg h1, if_neg h2, if_pos h3, if_neg h5, if_pos h6] <;> rfl, by rw [r_X8_would, if_neg h1, if_neg h2, if_pos h3, if_neg h5, if_pos h6] <;> rfl⟩)
          · refine And.intro (fun (h7 : x3 = 2) => ?_) (fun (h7 : ¬ x3 = 2) => ?_)
            · exact And.intro rfl (And.intro rfl ⟨by rw [r_X8_would, if_neg h1, if_neg h2, if_pos h3, if_neg h5, if_neg h6, if_pos h7] <;> rfl, by rw [r_X8_would, if_neg h1, if_neg h2, if_pos h3, if_neg h5, if_neg h6, if_pos h7] <;> rfl⟩)
            · exact And.intro rfl (And.intro rfl ⟨by rw [r_X8_would, if_neg h1, if_neg h2, if_pos h3, if_neg h5, if_neg h6, if_neg h7] <;> rfl, by rw [r_X8_would, if_neg h1, if_neg h2, if_pos h3, if_neg h5, if_neg h6, if_neg h7] <;> rfl⟩)
      · exact And.intro rfl (And.intro rfl ⟨by rw [r_X8_would, if_neg h1, if_neg h2, if_neg h3] <;> rfl, by rw [r_X8_would, if_neg h1, if_neg h2, if_neg h3] <;> rfl⟩)
