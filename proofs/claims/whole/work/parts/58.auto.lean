/-! printed by wip/whole/dec2.py -/
def u_X8_slice_1 (x1 : Int32) (N : Nat) (σ : zS) : zS := (r_X1_nextAct N σ).2
def u_X8_slice_2 (x1 : Int32) (N : Nat) (σ : zS) : zS := zuI (u_X8_slice_1 x1 N σ) ((r_X1_nextAct N σ).1) 6 x1
def r_X8_slice (x1 : Int32) (N : Nat) (σ : zS) : Int32 × zS := if x1 < 1 then (-1, σ) else (if x1 ≤ 50 then ((u_X8_slice_1 x1 N σ).1 ((r_X1_nextAct N σ).1) 6, (u_X8_slice_2 x1 N σ)) else (-1, σ))
def p_X8_slice (x1 : Int32) (N : Nat) (σ : zS) : Prop := ¬ x1 < 1 → (x1 ≤ 50 → p_X1_nextAct N σ)
set_option maxRecDepth 100000 in
set_option maxHeartbeats 1000000 in
theorem c_X8_slice {nx : Nat} (x1 : Int32) (N : Nat) (σ : zS) (hp : p_X8_slice x1 N σ) : zCl 5 zall nx zall nx 116 [.inr (8, 16, 0), .inl x1] σ (fun v σ1 => v = some (.inl ((r_X8_slice x1 N σ).1)) ∧ σ1 = (r_X8_slice x1 N σ).2) := by
  refine zmeth (cd := kX8_slice) [] 1000 (Nat.le_of_ble_eq_true rfl) rfl okX8_slice (Nat.le_refl _) (Nat.le_of_ble_eq_true rfl) ?_
  refine And.intro (fun (h1 : x1 < 1) => ?_) (fun (h1 : ¬ x1 < 1) => ?_)
  · exact And.intro rfl (And.intro rfl ⟨by rw [r_X8_slice, if_pos h1] <;> rfl, by rw [r_X8_slice, if_pos h1] <;> rfl⟩)
  · refine And.intro (fun (h2 : x1 ≤ 50) => ?_) (fun (h2 : ¬ x1 ≤ 50) => ?_)
    · refine zCl.use (c_X1_nextAct N σ ((hp h1) h2)) (Nat.le_of_ble_eq_true rfl) ?_
      rintro _ σz ⟨rfl, hz⟩
      subst σz
      exact And.intro rfl (And.intro rfl ⟨by rw [r_X8_slice, if_neg h1, if_pos h2] <;> rfl, by rw [r_X8_slice, if_neg h1, if_pos h2] <;> rfl⟩)
    · exact And.intro rfl (And.intro rfl ⟨by rw [r_X8_slice, if_neg h1, if_neg h2] <;> rfl, by rw [r_X8_slice, if_neg h1, if_neg h2] <;> rfl⟩)
def u_X8_again_1 (x1 : Int32) (N : Nat) (σ : zS) : zS := (r_X1_nextAct N σ).2
def u_X8_again_2 (x1 : Int32) (N : Nat) (σ : zS) : zS := s_X4_restart ((r_X1_nextAct N σ).1) x1 (u_X8_again_1 x1 N σ)
def r_X8_again (x1 : Int32) (N : Nat) (σ : zS) : Int32 × zS := if (f_X8_isTask x1 σ) = 0 then (0, σ) else (if (f_X4_isOver (f_X1_now σ) x1 σ) = 0 then (0, σ) else (1, (u_X8_again_2 x1 N σ)))
def p_X8_again (x1 : Int32) (N : Nat) (σ : zS) : Prop := p_X8_isTask x1 σ ∧ (¬ (f_X8_isTask x1 σ) = 0 → (p_X1_now σ ∧ (p_X4_isOver (f_X1_now σ) x1 σ ∧ (¬ (f_X4_isOver (f_X1_now σ) x1 σ) = 0 → (p_X1_nextAct N σ ∧ p_X4_restart ((r_X1_nextAct N σ).1) x1 (u_X8_again_1 x1 N σ))))))
set_option maxRecDepth 100000 in
set_option maxHeartbeats 1000000 in
theorem c_X8_again {nx : Nat} (x1 : Int32) (N : Nat) (σ : zS) (hp : p_X8_again x1 N σ) : zCl 5 zall nx zall nx 117 [.inr (8, 16, 0), .inl x1] σ (fun v σ1 => v = some (.inl ((r_X8_again x1 N σ).1)) ∧ σ1 = (r_X8_again x1 N σ).2) := by
  refine zmeth (cd := kX8_again) [] 1000 (Nat.le_of_ble_eq_true rfl) rfl okX8_again (Nat.le_refl _) (Nat.le_of_ble_eq_true rfl) ?_
  refine zCl.use (c_X8_isTask x1 σ hp.1) (Nat.le_of_ble_eq_true rfl) ?_
  rintro _ σz ⟨rfl, hz⟩
  subst σz
  refine And.intro (fun (h1 : (f_X8_isTask x1 σ) = 0) => ?_) (fun (h1 : ¬ (f_X8_isTask x1 σ) = 0) => ?_)
  · exact And.intro rfl (And.intro rfl (And.intro (Or.inl rfl) ⟨by rw [r_X8_again, if_pos h1] <;> rfl, by rw [r_X8_again, if_pos h1] <;> rfl⟩))
  · refine zCl.use (c_X1_now σ (hp.2 h1).1) (Nat.le_of_ble_eq_true rfl) ?_
    rintro _ σz ⟨rfl, hz⟩
    subst σz
    refine zCl.use (c_X4_isOver (f_X1_now σ) x1 σ (hp.2 h1).2.1) (Nat.le_of_ble_eq_true rfl) ?_
    rintro _ σz ⟨rfl, hz⟩
    subst σz
    refine And.intro (fun (h2 : ¬ (f_X4_isOver (f_X1_now σ) x1 σ) = 0) => ?_) (fun (h2 : (f_X4_isOver (f_X1_now σ) x1 σ) = 0) => ?_)
    · refine zCl.use (c_X1_nextAct N σ ((hp.2 h1).2.2 h2).1) (Nat.le_of_ble_eq_true rfl) ?_
      rintro _ σz ⟨rfl, hz⟩
      subst σz
      refine zCl.use (c_X4_restart ((r_X1_nextAct N σ).1) x1 (u_X8_again_1 x1 N σ) ((hp.2 h1).2.2 h2).2) (Nat.le_of_ble_eq_true rfl) ?_
      rintro _ σz ⟨rfl, hz⟩
      subst σz
      exact And.intro rfl (And.intro rfl (And.intro (Or.inr rfl) ⟨by rw [r_X8_again, if_neg h1, if_neg h2] <;> rfl, by rw [r_X8_again, if_neg h1, if_neg h2] <;> rfl⟩))
    · exact And.intro rfl (And.intro rfl (And.intro (Or.inl rfl) ⟨by rw [r_X8_again, if_neg h1, if_pos h2] <;> rfl, by rw [r_X8_again, if_neg h1, if_pos h2] <;> rfl⟩))
theorem b_X8_again {x1 : Int32} {N : Nat} {σ : zS} : (r_X8_again x1 N σ).1 = 0 ∨ (r_X8_again x1 N σ).1 = 1 := by
  unfold r_X8_again
  (repeat' split) <;> first | exact Or.inl rfl | exact Or.inr rfl
def u_X8_back_1 (x1 : Int32) (N : Nat) (σ : zS) : zS := s_X1_startFrom (σ.2 357 (x1).toNatClampNeg - 1) N σ
def r_X8_back (x1 : Int32) (N : Nat) (σ : zS) : Int32 × zS := if x1 < 0 then (-1, σ) else (if 2 ≤ x1 then (-1, σ) else (if 2 ≤ x1 then (-1, σ) else (if (σ.1 358 (x1).toNatClampNeg) = 0 then (-1, σ) else ((u_X8_back_1 x1 N σ).1 (f_X1_now (u_X8_back_1 x1 N σ)) 9, (u_X8_back_1 x1 N σ)))))
def p_X8_back (x1 : Int32) (N : Nat) (σ : zS) : Prop := ¬ x1 < 0 → (¬ 2 ≤ x1 → (¬ 2 ≤ x1 → (vp_in x1 2 ∧ (¬ (σ.1 358 (x1).toNatClampNeg) = 0 → ((σ.2 357 (x1).toNatClampNeg ≠ 0 ∧ zlay (σ.2 357 (x1).toNatClampNeg - 1) = (4, 17)) ∧ (p_X1_startFrom (σ.2 357 (x1).toNatClampNeg - 1) N σ ∧ p_X1_now (u_X8_back_1 x1 N σ)))))))
set_option maxRecDepth 100000 in
set_option maxHeartbeats 1000000 in
theorem c_X8_back {nx : Nat} (x1 : Int32) (N : Nat) (σ : zS) (hp : p_X8_back x1 N σ) : zCl 5 zall nx zall nx 138 [.inr (8, 16, 0), .inl x1] σ (fun v σ1 => v = some (.inl ((r_X8_back x1 N σ).1)) ∧ σ1 = (r_X8_back x1 N σ).2) := by
  refine zmeth (cd := kX8_back) [] 1000 (Nat.le_of_ble_eq_true rfl) rfl okX8_back (Nat.le_refl _) (Nat.le_of_ble_eq_true rfl) ?_
  refine And.intro (fun (h1 : x1 < 0) => ?_) (fun (h1 : ¬ x1 < 0) => ?_)
  · exact And.intro rfl (And.intro rfl ⟨by rw [r_X8_back, if_pos h1] <;> rfl, by rw [r_X8_back, if_pos h1] <;> rfl⟩)
  · refine And.intro (fun (h2 : 2 ≤ x1) => ?_) (fun (h2 : ¬ 2 ≤ x1) => ?_)
    · exact And.intro rfl (And.intro rfl ⟨by rw [r_X8_back, if_neg h1, if_pos h2] <;> rfl, by rw [r_X8_back, if_neg h1, if_pos h2] <;> rfl⟩)
    · refine And.intro (fun (h3 : 2 ≤ x1) => ?_) (fun (h3 : ¬ 2 ≤ x1) => ?_)
      · exact And.intro rfl (And.intro rfl ⟨by rw [r_X8_back, if_neg h1, if_neg h2, if_pos h3] <;> rfl, by rw [r_X8_back, if_neg h1, if_neg h2, if_pos h3] <;> rfl⟩)
      · refine And.intro (((hp h1) h2) h3).1 ?_
        refine And.intro (fun (h4 : ¬ (σ.1 358 (x1).toNatClampNeg) = 0) => ?_) (fun (h4 : (σ.1 358 (x1).toNatClampNeg) = 0) => ?_)
        · refine And.intro (((hp h1) h2) h3).1 ?_
          refine And.intro ((((hp h1) h2) h3).2 h4).1.1 (fun q905 (e5 : σ.2 357 (x1).toNatClampNeg = q905 + 1) => ?_)
          have g5 : q905 = (σ.2 357 (x1).toNatClampNeg - 1) := by omega
          subst g5
          rw [((((hp h1) h2) h3).2 h4).1.2]
          refine zCl.use (c_X1_startFrom (σ.2 357 (x1).toNatClampNeg - 1) N σ ((((hp h1) h2) h3).2 h4).2.1) (Nat.le_of_ble_eq_true rfl) ?_
          rintro _ σz ⟨rfl, hz⟩
          subst σz
          refine zCl.use (c_X1_now (u_X8_back_1 x1 N σ) ((((hp h1) h2) h3).2 h4).2.2) (Nat.le_of_ble_eq_true rfl) ?_
          rintro _ σz ⟨rfl, hz⟩
          subst σz
          exact And.intro rfl (And.intro rfl ⟨by rw [r_X8_back, if_neg h1, if_neg h2, if_neg h3, if_neg h4] <;> rfl, by rw [r_X8_back, if_neg h1, if_neg h2, if_neg h3, if_neg h4] <;> rfl⟩)
        · exact And.intro rfl (And.intro rfl ⟨by rw [r_X8_back, if_neg h1, if_neg h2, if_neg h3, if_pos h4] <;> rfl, by rw [r_X8_back, if_neg h1, if_neg h2, if_neg h3, if_pos h4] <;> rfl⟩)
def f_X8_about (x1 : Int32) (N : Nat) (σ : zS) : Int32 := if x1 = 0 then (σ.1 (σ.2 0 5 - 1) 0) else (if x1 = 1 then (σ.1 (σ.2 0 5 - 1) 6) else (if x1 = 2 then (σ.1 (σ.2 0 5 - 1) 7) else (if x1 = 3 then (f_X4_fact (f_X1_now σ) x1 N σ) else (if x1 = 4 then (f_X4_fact (f_X1_now σ) x1 N σ) else (if x1 = 5 then (f_X4_fact (f_X1_now σ) x1 N σ) else (if x1 = 6 then (f_X4_fact (f_X1_now σ) x1 N σ) else (if x1 = 7 then (f_X4_fact (f_X1_now σ) x1 N σ) else (if x1 = 8 then (f_X4_fact (f_X1_now σ) x1 N σ) else (if x1 = 9 then (f_X4_fact (f_X1_now σ) x1 N σ) else (if x1 = 10 then (f_X4_fact (f_X1_now σ) x1 N σ) else (if x1 = 11 then (f_X4_fact (f_X1_now σ) x1 N σ) else (if x1 = 12 then (f_X4_fact (f_X1_now σ) x1 N σ) else (if x1 = 13 then (f_X4_fact (f_X1_now σ) x1 N σ) else (if x1 = 14 then (σ.1 30 1) else (if x1 = 15 then ((σ.1 30 2) - (σ.1 30 1)) else (if x1 = 16 then (σ.1 0 1) else (if x1 = 17 then (σ.1 (σ.2 0 5 - 1) 8) else (f_X4_fact (f_X1_now σ) x1 N σ))))))))))))))))))
def p_X8_about (x1 : Int32) (N : Nat) (σ : zS) : Prop := (x1 = 0 → ((σ.2 0 5 ≠ 0 ∧ zlay (σ.2 0 5 - 1) = (2, 16)))) ∧ (¬ x1 = 0 → ((x1 = 1 → ((σ.2 0 5 ≠ 0 ∧ zlay (σ.2 0 5 - 1) = (2, 16)))) ∧ (¬ x1 = 1 → ((x1 = 2 → ((σ.2 0 5 ≠ 0 ∧ zlay (σ.2 0 5 - 1) = (2, 16)))) ∧ (¬ x1 = 2 → ((x1 = 3 → (p_X1_now σ ∧ p_X4_fact (f_X1_now σ) x1 N σ)) ∧ (¬ x1 = 3 → ((x1 = 4 → (p_X1_now σ ∧ p_X4_fact (f_X1_now σ) x1 N σ)) ∧ (¬ x1 = 4 → ((x1 = 5 → (p_X1_now σ ∧ p_X4_fact (f_X1_now σ) x1 N σ)) ∧ (¬ x1 = 5 → ((x1 = 6 → (p_X1_now σ ∧ p_X4_fact (f_X1_now σ) x1 N σ)) ∧ (¬ x1 = 6 → ((x1 = 7 → (p_X1_now σ ∧ p_X4_fact (f_X1_now σ) x1 N σ)) ∧ (¬ x1 = 7 → ((x1 = 8 → (p_X1_now σ ∧ p_X4_fact (f_X1_now σ) x1 N σ)) ∧ (¬ x1 = 8 → ((x1 = 9 → (p_X1_now σ ∧ p_X4_fact (f_X1_now σ) x1 N σ)) ∧ (¬ x1 = 9 → ((x1 = 10 → (p_X1_now σ ∧ p_X4_fact (f_X1_now σ) x1 N σ)) ∧ (¬ x1 = 10 → ((x1 = 11 → (p_X1_now σ ∧ p_X4_fact (f_X1_now σ) x1 N σ)) ∧ (¬ x1 = 11 → ((x1 = 12 → (p_X1_now σ ∧ p_X4_fact (f_X1_now σ) x1 N σ)) ∧ (¬ x1 = 12 → ((x1 = 13 → (p_X1_now σ ∧ p_X4_fact (f_X1_now σ) x1 N σ)) ∧ (¬ x1 = 13 → (¬ x1 = 14 → (¬ x1 = 15 → (¬ x1 = 16 → ((x1 = 17 → ((σ.2 0 5 ≠ 0 ∧ zlay (σ.2 0 5 - 1) = (2, 16)))) ∧ (¬ x1 = 17 → (p_X1_now σ ∧ p_X4_fact (f_X1_now σ) x1 N σ)))))))))))))))))))))))))))))))))
set_option maxRecDepth 100000 in
set_option maxHeartbeats 1000000 in
theorem c_X8_about {nx : Nat} (x1 : Int32) (N : Nat) (σ : zS) (hp : p_X8_about x1 N σ) : zCl 4 zall nx zall nx 139 [.inr (8, 16, 0), .inl x1] σ (fun v σ1 => v = some (.inl (f_X8_about x1 N σ)) ∧ σ1 = σ) := by
  refine zmeth (cd := kX8_about) [] 1000 (Nat.le_of_ble_eq_true rfl) rfl okX8_about (Nat.le_refl _) (Nat.le_of_ble_eq_true rfl) ?_
  refine And.intro (fun (h1 : x1 = 0) => ?_) (fun (h1 : ¬ x1 = 0) => ?_)
  · refine And.intro (hp.1 h1).1 (fun q902 (e2 : σ.2 0 5 = q902 + 1) => ?_)
    have g2 : q902 = (σ.2 0 5 - 1) := by omega
    subst g2
    rw [(hp.1 h1).2]
    exact And.intro rfl (And.intro rfl ⟨by rw [f_X8_about, if_pos h1] <;> rfl, rfl⟩)
  · refine And.intro (fun (h3 : x1 = 1) => ?_) (fun (h3 : ¬ x1 = 1) => ?_)
    · refine And.intro ((hp.2 h1).1 h3).1 (fun q904 (e4 : σ.2 0 5 = q904 + 1) => ?_)
      have g4 : q904 = (σ.2 0 5 - 1) := by omega
      subst g4
      rw [((hp.2 h1).1 h3).2]
      exact And.intro rfl (And.intro rfl ⟨by rw [f_X8_about, if_neg h1, if_pos h3] <;> rfl, rfl⟩)
    · refine And.intro (fun (h5 : x1 = 2) => ?_) (fun (h5 : ¬ x1 = 2) => ?_)
      · refine And.intro (((hp.2 h1).2 h3).1 h5).1 (fun q906 (e6 : σ.2 0 5 = q906 + 1) => ?_)
        have g6 : q906 = (σ.2 0 5 - 1) := by omega
        subst g6
        rw [(((hp.2 h1).2 h3).1 h5).2]
        exact And.intro rfl (And.intro rfl ⟨by rw [f_X8_about, if_neg h1, if_neg h3, if_pos h5] <;> rfl, rfl⟩)
      · refine And.intro (fun (h7 : x1 = 3) => ?_) (fun (h7 : ¬ x1 = 3) => ?_)
        · refine zCl.use (c_X1_now σ ((((hp.2 h1).2 h3).2 h5).1 h7).1) (Nat.le_of_ble_eq_true rfl) ?_
          rintro _ σz ⟨rfl, hz⟩
          subst σz
          refine zCl.use (c_X4_fact (f_X1_now σ) x1 N σ ((((hp.2 h1).2 h3).2 h5).1 h7).2) (Nat.le_of_ble_eq_true rfl) ?_
          rintro _ σz ⟨rfl, hz⟩
          subst σz
          exact And.intro rfl (And.intro rfl ⟨by rw [f_X8_about, if_neg h1, if_neg h3, if_neg h5, if_pos h7] <;> rfl, rfl⟩)
        · refine And.intro (fun (h8 : x1 = 4) => ?_) (fun (h8 : ¬ x1 = 4) => ?_)
          · refine zCl.use (c_X1_now σ (((((hp.2 h1).2 h3).2 h5).2 h7).1 h8).1) (Nat.le_of_ble_eq_true rfl) ?_
            rintro _ σz ⟨rfl, hz⟩
            subst σz
            refine zCl.use (c_X4_fact (f_X1_now σ) x1 N σ (((((hp.2 h1).2 h3).2 h5).2 h7).1 h8).2) (Nat.le_of_ble_eq_true rfl) ?_
            rintro _ σz ⟨rfl, hz⟩
            subst σz
            exact And.intro rfl (And.intro rfl ⟨by rw [f_X8_about, if_neg h1, if_neg h3, if_neg h5, if_neg h7, if_pos h8] <;> rfl, rfl⟩)
          · refine And.intro (fun (h9 : x1 = 5) => ?_) (fun (h9 : ¬ x1 = 5) => ?_)
            · refine zCl.use (c_X1_now σ ((((((hp.2 h1).2 h3).2 h5).2 h7).2 h8).1 h9).1) (Nat.le_of_ble_eq_true rfl) ?_
              rintro _ σz ⟨rfl, hz⟩
              subst σz
              refine zCl.use (c_X4_fact (f_X1_now σ) x1 N σ ((((((hp.2 h1).2 h3).2 h5).2 h7).2 h8).1 h9).2) (Nat.le_of_ble_eq_true rfl) ?_
              rintro _ σz ⟨rfl, hz⟩
              subst σz
              exact And.intro rfl (And.intro rfl ⟨by rw [f_X8_about, if_neg h1, if_neg h3, if_neg h5, if_neg h7, if_neg h8, if_pos h9] <;> rfl, rfl⟩)
            · refine And.intro (fun (h10 : x1 = 6) => ?_) (fun (h10 : ¬ x1 = 6) => ?_)
              · refine zCl.use (c_X1_now σ (((((((hp.2 h1).2 h3).2 h5).2 h7).2 h8).2 h9).1 h10).1) (Nat.le_of_ble_eq_true rfl) ?_
                rintro _ σz ⟨rfl, hz⟩
                subst σz
                refine zCl.use (c_X4_fact (f_X1_now σ) x1 N σ (((((((hp.2 h1).2 h3).2 h5).2 h7).2 h8).2 h9).1 h10).2) (Nat.le_of_ble_eq_true rfl) ?_
                rintro _ σz ⟨rfl, hz⟩
                subst σz
                exact And.intro rfl (And.intro rfl ⟨by rw [f_X8_about, if_neg h1, if_neg h3, if_neg h5, if_neg h7, if_neg h8, if_neg h9, if_pos h10] <;> rfl, rfl⟩)
              · refine And.intro (fun (h11 : x1 = 7) => ?_) (fun (h11 : ¬ x1 = 7) => ?_)
                · refine zCl.use (c_X1_now σ ((((((((hp.2 h1).2 h3).2 h5).2 h7).2 h8).2 h9).2 h10).1 h11).1) (Nat.le_of_ble_eq_true rfl) ?_
                  rintro _ σz ⟨rfl, hz⟩
                  subst σz
                  refine zCl.use (c_X4_fact (f_X1_now σ) x1 N σ ((((((((hp.2 h1).2 h3).2 h5).2 h7).2 h8).2 h9).2 h10).1 h11).2) (Nat.le_of_ble_eq_true rfl) ?_
                  rintro _ σz ⟨rfl, hz⟩
                  subst σz
                  exact And.intro rfl (And.intro rfl ⟨by rw [f_X8_about, if_neg h1, if_neg h3, if_neg h5, if_neg h7, if_neg h8, if_neg h9, if_neg h10, if_pos h11] <;> rfl, rfl⟩)
                · refine And.intro (fun (h12 : x1 = 8) => ?_) (fun (h12 : ¬ x1 = 8) => ?_)
                  · refine zCl.use (c_X1_now σ (((((((((hp.2 h1).2 h3).2 h5).2 h7).2 h8).2 h9).2 h10).2 h11).1 h12).1) (Nat.le_of_ble_eq_true rfl) ?_
                    rintro _ σz ⟨rfl, hz⟩
                    subst σz
                    refine zCl.use (c_X4_fact (f_X1_now σ) x1 N σ (((((((((hp.2 h1).2 h3).2 h5).2 h7).2 h8).2 h9).2 h10).2 h11).1 h12).2) (Nat.le_of_ble_eq_true rfl) ?_
                    rintro _ σz ⟨rfl, hz⟩
                    subst σz
                    exact And.intro rfl (And.intro rfl ⟨by rw [f_X8_about, if_neg h1, if_neg h3, if_neg h5, if_neg h7, if_neg h8, if_neg h9, if_neg h10, if_neg h11, if_pos h12] <;> rfl, rfl⟩)
                  · refine And.intro (fun (h13 : x1 = 9) => ?_) (fun (h13 : ¬ x1 = 9) => ?_)
                    · refine zCl.use (c_X1_now σ ((((((((((hp.2 h1).2 h3).2 h5).2 h7).2 h8).2 h9).2 h10).2 h11).2 h12).1 h13).1) (Nat.le_of_ble_eq_true rfl) ?_
                      rintro _ σz ⟨rfl, hz⟩
                      subst σz
                      refine zCl.use (c_X4_fact (f_X1_now σ) x1 N σ ((((((((((hp.2 h1).2 h3).2 h5).2 h7).2 h8).2 h9).2 h10).2 h11).2 h12).1 h13).2) (Nat.le_of_ble_eq_true rfl) ?_
                      rintro _ σz ⟨rfl, hz⟩
                      subst σz
                      exact And.intro rfl (And.intro rfl ⟨by rw [f_X8_about, if_neg h1, if_neg h3, if_neg h5, if_neg h7, if_neg h8, if_neg h9, if_neg h10, if_neg h11, if_neg h12, if_pos h13] <;> rfl, rfl⟩)
                    · refine And.intro (fun (h14 : x1 = 10) => ?_) (fun (h14 : ¬ x1 = 10) => ?_)
                      · refine zCl.use (c_X1_now σ (((((((((((hp.2 h1).2 h3).2 h5).2 h7).2 h8).2 h9).2 h10).2 h11).2 h12).2 h13).1 h14).1) (Nat.le_of_ble_eq_true rfl) ?_
                        rintro _ σz ⟨rfl, hz⟩
                        subst σz
                        refine zCl.use (c_X4_fact (f_X1_now σ) x1 N σ (((((((((((hp.2 h1).2 h3).2 h5).2 h7).2 h8).2 h9).2 h10).2 h11).2 h12).2 h13).1 h14).2) (Nat.le_of_ble_eq_true rfl) ?_
                        rintro _ σz ⟨rfl, hz⟩
                        subst σz
                        exact And.intro rfl (And.intro rfl ⟨by rw [f_X8_about, if_neg h1, if_neg h3, if_neg h5, if_neg h7, if_neg h8, if_neg h9, if_neg h10, if_neg h11, if_neg h12, if_neg h13, if_pos h14] <;> rfl, rfl⟩)
                      · refine And.intro (fun (h15 : x1 = 11) => ?_) (fun (h15 : ¬ x1 = 11) => ?_)
                        · refine zCl.use (c_X1_now σ ((((((((((((hp.2 h1).2 h3).2 h5).2 h7).2 h8).2 h9).2 h10).2 h11).2 h12).2 h13).2 h14).1 h15).1) (Nat.le_of_ble_eq_true rfl) ?_
                          rintro _ σz ⟨rfl, hz⟩
                          subst σz
                          refine zCl.use (c_X4_fact (f_X1_now σ) x1 N σ ((((((((((((hp.2 h1).2 h3).2 h5).2 h7).2 h8).2 h9).2 h10).2 h11).2 h12).2 h13).2 h14).1 h15).2) (Nat.le_of_ble_eq_true rfl) ?_
                          rintro _ σz ⟨rfl, hz⟩
                          subst σz
                          exact And.intro rfl (And.intro rfl ⟨by rw [f_X8_about, if_neg h1, if_neg h3, if_neg h5, if_neg h7, if_neg h8, if_neg h9, if_neg h10, if_neg h11, if_neg h12, if_neg h13, if_neg h14, if_pos h15] <;> rfl, rfl⟩)
                        · refine And.intro (fun (h16 : x1 = 12) => ?_) (fun (h16 : ¬ x1 = 12) => ?_)
                          · refine zCl.use (c_X1_now σ (((((((((((((hp.2 h1).2 h3).2 h5).2 h7).2 h8).2 h9).2 h10).2 h11).2 h12).2 h13).2 h14).2 h15).1 h16).1) (Nat.le_of_ble_eq_true rfl) ?_
                            rintro _ σz ⟨rfl, hz⟩
                            subst σz
                            refine zCl.use (c_X4_fact (f_X1_now σ) x1 N σ (((((((((((((hp.2 h1).2 h3).2 h5).2 h7).2 h8).2 h9).2 h10).2 h11).2 h12).2 h13).2 h14).2 h15).1 h16).2) (Nat.le_of_ble_eq_true rfl) ?_
                            rintro _ σz ⟨rfl, hz⟩
                            subst σz
                            exact And.intro rfl (And.intro rfl ⟨by rw [f_X8_about, if_neg h1, if_neg h3, if_neg h5, if_neg h7, if_neg h8, if_neg h9, if_neg h10, if_neg h11, if_neg h12, if_neg h13, if_neg h14, if_neg h15, if_pos h16] <;> rfl, rfl⟩)
                          · refine And.intro (fun (h17 : x1 = 13) => ?_) (fun (h17 : ¬ x1 = 13) => ?_)
                            · refine zCl.use (c_X1_now σ ((((((((((((((hp.2 h1).2 h3).2 h5).2 h7).2 h8).2 h9).2 h10).2 h11).2 h12).2 h13).2 h14).2 h15).2 h16).1 h17).1) (Nat.le_of_ble_eq_true rfl) ?_
                              rintro _ σz ⟨rfl, hz⟩
                              subst σz
                              refine zCl.use (c_X4_fact (f_X1_now σ) x1 N σ ((((((((((((((hp.2 h1).2 h3).2 h5).2 h7).2 h8).2 h9).2 h10).2 h11).2 h12).2 h13).2 h14).2 h15).2 h16).1 h17).2) (Nat.le_of_ble_eq_true rfl) ?_
                              rintro _ σz ⟨rfl, hz⟩
                              subst σz
                              exact And.intro rfl (And.intro rfl ⟨by rw [f_X8_about, if_neg h1, if_neg h3, if_neg h5, if_neg h7, if_neg h8, if_neg h9, if_neg h10, if_neg h11, if_neg h12, if_neg h13, if_neg h14, if_neg h15, if_neg h16, if_pos h17] <;> rfl, rfl⟩)
                            · refine And.intro (fun (h18 : x1 = 14) => ?_) (fun (h18 : ¬ x1 = 14) => ?_)
                              · exact And.intro rfl (And.intro rfl ⟨by rw [f_X8_about, if_neg h1, if_neg h3, if_neg h5, if_neg h7, if_neg h8, if_neg h9, if_neg h10, if_neg h11, if_neg h12, if_neg h13, if_neg h14, if_neg h15, if_neg h16, if_neg h17, if_pos h18] <;> rfl, rfl⟩)
                              · refine And.intro (fun (h19 : x1 = 15) => ?_) (fun (h19 : ¬ x1 = 15) => ?_)
                                · exact And.intro rfl (And.intro rfl ⟨by rw [f_X8_about, if_neg h1, if_neg h3, if_neg h5, if_neg h7, if_neg h8, if_neg h9, if_neg h10, if_neg h11, if_neg h12, if_neg h13, if_neg h14, if_neg h15, if_neg h16, if_neg h17, if_neg h18, if_pos h19] <;> rfl, rfl⟩)
                                · refine And.intro (fun (h20 : x1 = 16) => ?_) (fun (h20 : ¬ x1 = 16) => ?_)
                                  · exact And.intro rfl (And.intro rfl ⟨by rw [f_X8_about, if_neg h1, if_neg h3, if_neg h5, if_neg h7, if_neg h8, if_neg h9, if_neg h10, if_neg h11, if_neg h12, if_neg h13, if_neg h14, if_neg h15, if_neg h16, if_neg h17, if_neg h18, if_neg h19, if_pos h20] <;> rfl, rfl⟩)
                                  · refine And.intro (fun (h21 : x1 = 17) => ?_) (fun (h21 : ¬ x1 = 17) => ?_)
                                    · refine And.intro ((((((((((((((((((hp.2 h1).2 h3).2 h5).2 h7).2 h8).2 h9).2 h10).2 h11).2 h12).2 h13).2 h14).2 h15).2 h16).2 h17) h18) h19) h20).1 h21).1 (fun q922 (e22 : σ.2 0 5 = q922 + 1) => ?_)
                                      have g22 : q922 = (σ.2 0 5 - 1) := by omega
                                      subst g22
                                      rw [((((((((((((((((((hp.2 h1).2 h3).2 h5).2 h7).2 h8).2 h9).2 h10).2 h11).2 h12).2 h13).2 h14).2 h15).2 h16).2 h17) h18) h19) h20).1 h21).2]
                                      exact And.intro rfl (And.intro rfl ⟨by rw [f_X8_about, if_neg h1, if_neg h3, if_neg h5, if_neg h7, if_neg h8, if_neg h9, if_neg h10, if_neg h11, if_neg h12, if_neg h13, if_neg h14, if_neg h15, if_neg h16, if_neg h17, if_neg h18, if_neg h19, if_neg h20, if_pos h21] <;> rfl, rfl⟩)
                                    · refine zCl.use (c_X1_now σ ((((((((((((((((((hp.2 h1).2 h3).2 h5).2 h7).2 h8).2 h9).2 h10).2 h11).2 h12).2 h13).2 h14).2 h15).2 h16).2 h17) h18) h19) h20).2 h21).1) (Nat.le_of_ble_eq_true rfl) ?_
                                      rintro _ σz ⟨rfl, hz⟩
                                      subst σz
                                      refine zCl.use (c_X4_fact (f_X1_now σ) x1 N σ ((((((((((((((((((hp.2 h1).2 h3).2 h5).2 h7).2 h8).2 h9).2 h10).2 h11).2 h12).2 h13).2 h14).2 h15).2 h16).2 h17) h18) h19) h20).2 h21).2) (Nat.le_of_ble_eq_true rfl) ?_
                                      rintro _ σz ⟨rfl, hz⟩
                                      subst σz
                                      exact And.intro rfl (And.intro rfl ⟨by rw [f_X8_about, if_neg h1, if_neg h3, if_neg h5, if_neg h7, if_neg h8, if_neg h9, if_neg h10, if_neg h11, if_neg h12, if_neg h13, if_neg h14, if_neg h15, if_neg h16, if_neg h17, if_neg h18, if_neg h19, if_neg h20, if_neg h21] <;> rfl, rfl⟩)
def u_X9_scan_h0_1 (N : Nat) (σ : zS) : zS := zuI σ 468 20 ((σ.1 468 21) + 1)
def u_X9_scan_h0_2 (N : Nat) (σ : zS) : zS := zuI (u_X9_scan_h0_1 N σ) 468 22 1
def u_X9_scan_h0_3 (N : Nat) (σ : zS) : zS := zuI (u_X9_scan_h0_1 N σ) 468 22 4
def u_X9_scan_h0_4 (N : Nat) (σ : zS) : zS := s_X9_scanNumber N (u_X9_scan_h0_1 N σ)
def u_X9_scan_h0_5 (N : Nat) (σ : zS) : zS := s_X9_scanWord N (u_X9_scan_h0_1 N σ)
def u_X9_scan_h0_6 (N : Nat) (σ : zS) : zS := zuI (u_X9_scan_h0_1 N σ) 468 20 ((u_X9_scan_h0_1 N σ).1 468 21)
def u_X9_scan_h0_7 (N : Nat) (σ : zS) : zS := zuI (u_X9_scan_h0_6 N σ) 468 22 0
def u_X9_scan_h0_8 (N : Nat) (σ : zS) : zS := zuI σ 468 21 ((σ.1 468 21) + 1)
def l_X9_scan (N : Nat) : Nat → zS → zS
  | 0, σ => σ
  | n + 1, σ => if (f_X9_isBlank (σ.1 468 21) σ) = 0 then (if ((u_X9_scan_h0_1 N σ).1 468 21) < ((u_X9_scan_h0_1 N σ).1 468 19) then (if (f_X9_isLetter (f_X9_signAt ((u_X9_scan_h0_1 N σ).1 468 21) (u_X9_scan_h0_1 N σ))) = 0 then (if (f_X9_isDigit (f_X9_signAt ((u_X9_scan_h0_1 N σ).1 468 21) (u_X9_scan_h0_1 N σ))) = 0 then (if (f_X9_isSign (f_X9_signAt ((u_X9_scan_h0_1 N σ).1 468 21) (u_X9_scan_h0_1 N σ))) = 0 then (u_X9_scan_h0_2 N σ) else (u_X9_scan_h0_3 N σ)) else (u_X9_scan_h0_4 N σ)) else (u_X9_scan_h0_5 N σ)) else (u_X9_scan_h0_7 N σ)) else (l_X9_scan N n (u_X9_scan_h0_8 N σ))
def q_X9_scan (N : Nat) : Nat → zS → Prop
  | 0, _ => False
  | n + 1, σ => p_X9_isBlank (σ.1 468 21) σ ∧ (((f_X9_isBlank (σ.1 468 21) σ) = 0 → (p_X9_signAt ((u_X9_scan_h0_1 N σ).1 468 21) (u_X9_scan_h0_1 N σ) ∧ (((u_X9_scan_h0_1 N σ).1 468 21) < ((u_X9_scan_h0_1 N σ).1 468 19) → (((f_X9_isLetter (f_X9_signAt ((u_X9_scan_h0_1 N σ).1 468 21) (u_X9_scan_h0_1 N σ))) = 0 → (¬ (f_X9_isDigit (f_X9_signAt ((u_X9_scan_h0_1 N σ).1 468 21) (u_X9_scan_h0_1 N σ))) = 0 → p_X9_scanNumber N (u_X9_scan_h0_1 N σ))) ∧ (¬ (f_X9_isLetter (f_X9_signAt ((u_X9_scan_h0_1 N σ).1 468 21) (u_X9_scan_h0_1 N σ))) = 0 → p_X9_scanWord N (u_X9_scan_h0_1 N σ)))))) ∧ (¬ (f_X9_isBlank (σ.1 468 21) σ) = 0 → q_X9_scan N n (u_X9_scan_h0_8 N σ)))
set_option maxRecDepth 100000 in
set_option maxHeartbeats 1000000 in
theorem w_X9_scan {nx : Nat} (N : Nat) : ∀ n : Nat, (∀ (σ : zS), q_X9_scan N n σ → zWp 3 zall nx 163 (fun v σ1 => v = none ∧ σ1 = l_X9_scan N n σ) zall nx 8 [some (.inr (9, 57, 468)), none] [] σ) := by
  intro n
  induction n with
  | zero => exact fun _ h => h.elim
  | succ n ih =>
    intro σ hp
    rw [q_X9_scan] at hp
    refine zvc_sound (cd := kX9_scan) (cs := [8]) rfl okX9_scan 1000 _ _ 8 (zseek kX9_scan 8) _ _ _ zseek_sub ?_
    refine zCl.use (c_X9_isBlank (σ.1 468 21) σ hp.1) (Nat.le_of_ble_eq_true rfl) ?_
    rintro _ σz ⟨rfl, hz⟩
    subst σz
    refine And.intro (fun (h1 : (f_X9_isBlank (σ.1 468 21) σ) = 0) => ?_) (fun (h1 : ¬ (f_X9_isBlank (σ.1 468 21) σ) = 0) => ?_)
    · refine zCl.use (c_X9_signAt ((u_X9_scan_h0_1 N σ).1 468 21) (u_X9_scan_h0_1 N σ) (hp.2.1 h1).1) (Nat.le_of_ble_eq_true rfl) ?_
      rintro _ σz ⟨rfl, hz⟩
      subst σz
      refine And.intro (fun (h2 : ((u_X9_scan_h0_1 N σ).1 468 21) < ((u_X9_scan_h0_1 N σ).1 468 19)) => ?_) (fun (h2 : ¬ ((u_X9_scan_h0_1 N σ).1 468 21) < ((u_X9_scan_h0_1 N σ).1 468 19)) => ?_)
      · refine zCl.use (c_X9_isLetter (f_X9_signAt ((u_X9_scan_h0_1 N σ).1 468 21) (u_X9_scan_h0_1 N σ)) (u_X9_scan_h0_1 N σ)) (Nat.le_of_ble_eq_true rfl) ?_
        rintro _ σz ⟨rfl, hz⟩
        subst σz
        refine And.intro (fun (h3 : (f_X9_isLetter (f_X9_signAt ((u_X9_scan_h0_1 N σ).1 468 21) (u_X9_scan_h0_1 N σ))) = 0) => ?_) (fun (h3 : ¬ (f_X9_isLetter (f_X9_signAt ((u_X9_scan_h0_1 N σ).1 468 21) (u_X9_scan_h0_1 N σ))) = 0) => ?_)
        · refine zCl.use (c_X9_isDigit (f_X9_signAt ((u_X9_scan_h0_1 N σ).1 468 21) (u_X9_scan_h0_1 N σ)) (u_X9_scan_h0_1 N σ)) (Nat.le_of_ble_eq_true rfl) ?_
          rintro _ σz ⟨rfl, hz⟩
          subst σz
          refine And.intro (fun (h4 : (f_X9_isDigit (f_X9_signAt ((u_X9_scan_h0_1 N σ).1 468 21) (u_X9_scan_h0_1 N σ))) = 0) => ?_) (fun (h4 : ¬ (f_X9_isDigit (f_X9_signAt ((u_X9_scan_h0_1 N σ).1 468 21) (u_X9_scan_h0_1 N σ))) = 0) => ?_)
          · refine zCl.use (c_X9_isSign (f_X9_signAt ((u_X9_scan_h0_1 N σ).1 468 21) (u_X9_scan_h0_1 N σ)) (u_X9_scan_h0_1 N σ)) (Nat.le_of_ble_eq_true rfl) ?_
            rintro _ σz ⟨rfl, hz⟩
            subst σz
            refine And.intro (fun (h5 : (f_X9_isSign (f_X9_signAt ((u_X9_scan_h0_1 N σ).1 468 21) (u_X9_scan_h0_1 N σ))) = 0) => ?_) (fun (h5 : ¬ (f_X9_isSign (f_X9_signAt ((u_X9_scan_h0_1 N σ).1 468 21) (u_X9_scan_h0_1 N σ))) = 0) => ?_)
            · exact And.intro rfl (And.intro rfl ⟨rfl, by rw [l_X9_scan, if_pos h1, if_pos h2, if_pos h3, if_pos h4, if_pos h5] <;> rfl⟩)
            · exact And.intro rfl (And.intro rfl ⟨rfl, by rw [l_X9_scan, if_pos h1, if_pos h2, if_pos h3, if_pos h4, if_neg h5] <;> rfl⟩)
          · refine zCl.use (c_X9_scanNumber N (u_X9_scan_h0_1 N σ) ((((hp.2.1 h1).2 h2).1 h3) h4)) (Nat.le_of_ble_eq_true rfl) ?_
            rintro _ σz ⟨rfl, hz⟩
            subst σz
            exact And.intro rfl (And.intro rfl ⟨rfl, by rw [l_X9_scan, if_pos h1, if_pos h2, if_pos h3, if_neg h4] <;> rfl⟩)
        · refine zCl.use (c_X9_scanWord N (u_X9_scan_h0_1 N σ) (((hp.2.1 h1).2 h2).2 h3)) (Nat.le_of_ble_eq_true rfl) ?_
          rintro _ σz ⟨rfl, hz⟩
          subst σz
          exact And.intro rfl (And.intro rfl ⟨rfl, by rw [l_X9_scan, if_pos h1, if_pos h2, if_neg h3] <;> rfl⟩)
      · exact And.intro rfl (And.intro rfl ⟨rfl, by rw [l_X9_scan, if_pos h1, if_neg h2] <;> rfl⟩)
    · refine zWp.use (ih (u_X9_scan_h0_8 N σ) (hp.2.2 h1)) (And.intro rfl trivial) (fun vy σy hy => ?_)
      rw [l_X9_scan, if_neg h1]; exact hy
def u_X9_scan_1 (N : Nat) (σ : zS) : zS := zuI σ 468 21 (σ.1 468 20)
def s_X9_scan (N : Nat) (σ : zS) : zS := l_X9_scan N N (u_X9_scan_1 N σ)
def p_X9_scan (N : Nat) (σ : zS) : Prop := q_X9_scan N N (u_X9_scan_1 N σ)
set_option maxRecDepth 100000 in
set_option maxHeartbeats 1000000 in
theorem c_X9_scan {nx : Nat} (N : Nat) (σ : zS) (hp : p_X9_scan N σ) : zCl 3 zall nx zall nx 163 [.inr (9, 57, 468)] σ (fun v σ1 => v = none ∧ σ1 = s_X9_scan N σ) := by
  refine zmeth (cd := kX9_scan) [8] 1000 (Nat.le_of_ble_eq_true rfl) rfl okX9_scan (Nat.le_refl _) (Nat.le_of_ble_eq_true rfl) ?_
  refine zWp.use ((w_X9_scan N N) (u_X9_scan_1 N σ) hp) (And.intro rfl trivial) (fun vy σy hy => ?_)
  rw [s_X9_scan]; exact hy
def u_X9_need_1 (x1 : Int32) (N : Nat) (σ : zS) : zS := s_X9_fail 1 σ
def u_X9_need_2 (x1 : Int32) (N : Nat) (σ : zS) : zS := s_X9_scan N σ
def s_X9_need (x1 : Int32) (N : Nat) (σ : zS) : zS := if (f_X9_isAt x1 σ) = 0 then (u_X9_need_1 x1 N σ) else (u_X9_need_2 x1 N σ)
def p_X9_need (x1 : Int32) (N : Nat) (σ : zS) : Prop := p_X9_isAt x1 σ ∧ (¬ (f_X9_isAt x1 σ) = 0 → p_X9_scan N σ)
set_option maxRecDepth 100000 in
set_option maxHeartbeats 1000000 in
theorem c_X9_need {nx : Nat} (x1 : Int32) (N : Nat) (σ : zS) (hp : p_X9_need x1 N σ) : zCl 4 zall nx zall nx 171 [.inr (9, 57, 468), .inl x1] σ (fun v σ1 => v = none ∧ σ1 = s_X9_need x1 N σ) := by
  refine zmeth (cd := kX9_need) [] 1000 (Nat.le_of_ble_eq_true rfl) rfl okX9_need (Nat.le_refl _) (Nat.le_of_ble_eq_true rfl) ?_
  refine zCl.use (c_X9_isAt x1 σ hp.1) (Nat.le_of_ble_eq_true rfl) ?_
  rintro _ σz ⟨rfl, hz⟩
  subst σz
  refine And.intro (fun (h1 : (f_X9_isAt x1 σ) = 0) => ?_) (fun (h1 : ¬ (f_X9_isAt x1 σ) = 0) => ?_)
  · refine zCl.use (c_X9_fail 1 σ) (Nat.le_of_ble_eq_true rfl) ?_
    rintro _ σz ⟨rfl, hz⟩
    subst σz
    exact And.intro rfl (And.intro rfl ⟨rfl, by rw [s_X9_need, if_pos h1] <;> rfl⟩)
  · refine zCl.use (c_X9_scan N σ (hp.2 h1)) (Nat.le_of_ble_eq_true rfl) ?_
    rintro _ σz ⟨rfl, hz⟩
    subst σz
    exact And.intro rfl (And.intro rfl ⟨rfl, by rw [s_X9_need, if_neg h1] <;> rfl⟩)
def u_X9_numeral_1 (x1 : Int32) (x2 : Int32) (N : Nat) (σ : zS) : zS := s_X9_scan N σ
def u_X9_numeral_2 (x1 : Int32) (x2 : Int32) (N : Nat) (σ : zS) : zS := s_X9_fail 2 σ
def u_X9_numeral_3 (x1 : Int32) (x2 : Int32) (N : Nat) (σ : zS) : zS := s_X9_scan N (u_X9_numeral_2 x1 x2 N σ)
def u_X9_numeral_4 (x1 : Int32) (x2 : Int32) (N : Nat) (σ : zS) : zS := s_X9_fail 1 σ
def u_X9_numeral_5 (x1 : Int32) (x2 : Int32) (N : Nat) (σ : zS) : zS := s_X9_scan N (u_X9_numeral_4 x1 x2 N σ)
def r_X9_numeral (x1 : Int32) (x2 : Int32) (N : Nat) (σ : zS) : Int32 × zS := if (σ.1 468 22) = 3 then (if (f_X9_isIn (σ.1 468 23) x1 x2) = 0 then (if ((u_X9_numeral_2 x1 x2 N σ).1 468 25) = 0 then ((u_X9_numeral_2 x1 x2 N σ).1 468 23, (u_X9_numeral_3 x1 x2 N σ)) else ((u_X9_numeral_2 x1 x2 N σ).1 468 23, (u_X9_numeral_2 x1 x2 N σ))) else (if (σ.1 468 25) = 0 then (σ.1 468 23, (u_X9_numeral_1 x1 x2 N σ)) else (σ.1 468 23, σ))) else (if ((u_X9_numeral_4 x1 x2 N σ).1 468 25) = 0 then ((u_X9_numeral_4 x1 x2 N σ).1 468 23, (u_X9_numeral_5 x1 x2 N σ)) else ((u_X9_numeral_4 x1 x2 N σ).1 468 23, (u_X9_numeral_4 x1 x2 N σ)))
def p_X9_numeral (x1 : Int32) (x2 : Int32) (N : Nat) (σ : zS) : Prop := ((σ.1 468 22) = 3 → ((¬ (f_X9_isIn (σ.1 468 23) x1 x2) = 0 → ((σ.1 468 25) = 0 → p_X9_scan N σ)) ∧ ((f_X9_isIn (σ.1 468 23) x1 x2) = 0 → (((u_X9_numeral_2 x1 x2 N σ).1 468 25) = 0 → p_X9_scan N (u_X9_numeral_2 x1 x2 N σ))))) ∧ (¬ (σ.1 468 22) = 3 → (((u_X9_numeral_4 x1 x2 N σ).1 468 25) = 0 → p_X9_scan N (u_X9_numeral_4 x1 x2 N σ)))
set_option maxRecDepth 100000 in
set_option maxHeartbeats 1000000 in
theorem c_X9_numeral {nx : Nat} (x1 : Int32) (x2 : Int32) (N : Nat) (σ : zS) (hp : p_X9_numeral x1 x2 N σ) : zCl 4 zall nx zall nx 172 [.inr (9, 57, 468), .inl x1, .inl x2] σ (fun v σ1 => v = some (.inl ((r_X9_numeral x1 x2 N σ).1)) ∧ σ1 = (r_X9_numeral x1 x2 N σ).2) := by
  refine zmeth (cd := kX9_numeral) [] 1000 (Nat.le_of_ble_eq_true rfl) rfl okX9_numeral (Nat.le_refl _) (Nat.le_of_ble_eq_true rfl) ?_
  refine And.intro (fun (h1 : (σ.1 468 22) = 3) => ?_) (fun (h1 : ¬ (σ.1 468 22) = 3) => ?_)
  · refine zCl.use (c_X9_isIn (σ.1 468 23) x1 x2 σ) (Nat.le_of_ble_eq_true rfl) ?_
    rintro _ σz ⟨rfl, hz⟩
    subst σz
    refine And.intro (fun (h2 : ¬ (f_X9_isIn (σ.1 468 23) x1 x2) = 0) => ?_) (fun (h2 : (f_X9_isIn (σ.1 468 23) x1 x2) = 0) => ?_)
    · refine And.intro (fun (h3 : ¬ (σ.1 468 25) = 0) => ?_) (fun (h3 : (σ.1 468 25) = 0) => ?_)
      · exact And.intro rfl (And.intro rfl ⟨by rw [r_X9_numeral, if_pos h1, if_neg h2, if_neg h3] <;> rfl, by rw [r_X9_numeral, if_pos h1, if_neg h2, if_neg h3] <;> rfl⟩)
      · refine zCl.use (c_X9_scan N σ (((hp.1 h1).1 h2) h3)) (Nat.le_of_ble_eq_true rfl) ?_
        rintro _ σz ⟨rfl, hz⟩
        subst σz
        exact And.intro rfl (And.intro rfl ⟨by rw [r_X9_numeral, if_pos h1, if_neg h2, if_pos h3] <;> rfl, by rw [r_X9_numeral, if_pos h1, if_neg h2, if_pos h3] <;> rfl⟩)
    · refine zCl.use (c_X9_fail 2 σ) (Nat.le_of_ble_eq_true rfl) ?_
      rintro _ σz ⟨rfl, hz⟩
      subst σz
      refine And.intro (fun (h4 : ¬ ((u_X9_numeral_2 x1 x2 N σ).1 468 25) = 0) => ?_) (fun (h4 : ((u_X9_numeral_2 x1 x2 N σ).1 468 25) = 0) => ?_)
      · exact And.intro rfl (And.intro rfl ⟨by rw [r_X9_numeral, if_pos h1, if_pos h2, if_neg h4] <;> rfl, by rw [r_X9_numeral, if_pos h1, if_pos h2, if_neg h4] <;> rfl⟩)
      · refine zCl.use (c_X9_scan N (u_X9_numeral_2 x1 x2 N σ) (((hp.1 h1).2 h2) h4)) (Nat.le_of_ble_eq_true rfl) ?_
        rintro _ σz ⟨rfl, hz⟩
        subst σz
        exact And.intro rfl (And.intro rfl ⟨by rw [r_X9_numeral, if_pos h1, if_pos h2, if_pos h4] <;> rfl, by rw [r_X9_numeral, if_pos h1, if_pos h2, if_pos h4] <;> rfl⟩)
  · refine zCl.use (c_X9_fail 1 σ) (Nat.le_of_ble_eq_true rfl) ?_
    rintro _ σz ⟨rfl, hz⟩
    subst σz
    refine And.intro (fun (h5 : ¬ ((u_X9_numeral_4 x1 x2 N σ).1 468 25) = 0) => ?_) (fun (h5 : ((u_X9_numeral_4 x1 x2 N σ).1 468 25) = 0) => ?_)
    · exact And.intro rfl (And.intro rfl ⟨by rw [r_X9_numeral, if_neg h1, if_neg h5] <;> rfl, by rw [r_X9_numeral, if_neg h1, if_neg h5] <;> rfl⟩)
    · refine zCl.use (c_X9_scan N (u_X9_numeral_4 x1 x2 N σ) ((hp.2 h1) h5)) (Nat.le_of_ble_eq_true rfl) ?_
      rintro _ σz ⟨rfl, hz⟩
      subst σz
      exact And.intro rfl (And.intro rfl ⟨by rw [r_X9_numeral, if_neg h1, if_pos h5] <;> rfl, by rw [r_X9_numeral, if_neg h1, if_pos h5] <;> rfl⟩)
def u_X9_isOnce_1 (x1 : Int32) (N : Nat) (σ : zS) : zS := zuI σ 468 33 ((σ.1 468 33) ||| (1 <<< (x1 &&& 31)))
def u_X9_isOnce_2 (x1 : Int32) (N : Nat) (σ : zS) : zS := s_X9_scan N (u_X9_isOnce_1 x1 N σ)
def u_X9_isOnce_3 (x1 : Int32) (N : Nat) (σ : zS) : zS := s_X9_fail 3 σ
def u_X9_isOnce_4 (x1 : Int32) (N : Nat) (σ : zS) : zS := zuI (u_X9_isOnce_3 x1 N σ) 468 33 (((u_X9_isOnce_3 x1 N σ).1 468 33) ||| (1 <<< (x1 &&& 31)))
def u_X9_isOnce_5 (x1 : Int32) (N : Nat) (σ : zS) : zS := s_X9_scan N (u_X9_isOnce_4 x1 N σ)
def r_X9_isOnce (x1 : Int32) (N : Nat) (σ : zS) : Int32 × zS := if (((σ.1 468 33) >>> (x1 &&& 31)) &&& 1) = 1 then (if ((u_X9_isOnce_4 x1 N σ).1 468 25) = 0 then (if ((u_X9_isOnce_5 x1 N σ).1 468 25) = 0 then (1, (u_X9_isOnce_5 x1 N σ)) else (0, (u_X9_isOnce_5 x1 N σ))) else (if ((u_X9_isOnce_4 x1 N σ).1 468 25) = 0 then (1, (u_X9_isOnce_4 x1 N σ)) else (0, (u_X9_isOnce_4 x1 N σ)))) else (if ((u_X9_isOnce_1 x1 N σ).1 468 25) = 0 then (if ((u_X9_isOnce_2 x1 N σ).1 468 25) = 0 then (1, (u_X9_isOnce_2 x1 N σ)) else (0, (u_X9_isOnce_2 x1 N σ))) else (if ((u_X9_isOnce_1 x1 N σ).1 468 25) = 0 then (1, (u_X9_isOnce_1 x1 N σ)) else (0, (u_X9_isOnce_1 x1 N σ))))
def p_X9_isOnce (x1 : Int32) (N : Nat) (σ : zS) : Prop := (¬ (((σ.1 468 33) >>> (x1 &&& 31)) &&& 1) = 1 → (((u_X9_isOnce_1 x1 N σ).1 468 25) = 0 → p_X9_scan N (u_X9_isOnce_1 x1 N σ))) ∧ ((((σ.1 468 33) >>> (x1 &&& 31)) &&& 1) = 1 → (((u_X9_isOnce_4 x1 N σ).1 468 25) = 0 → p_X9_scan N (u_X9_isOnce_4 x1 N σ)))
set_option maxRecDepth 100000 in
set_option maxHeartbeats 1000000 in
theorem c_X9_isOnce {nx : Nat} (x1 : Int32) (N : Nat) (σ : zS) (hp : p_X9_isOnce x1 N σ) : zCl 4 zall nx zall nx 177 [.inr (9, 57, 468), .inl x1] σ (fun v σ1 => v = some (.inl ((r_X9_isOnce x1 N σ).1)) ∧ σ1 = (r_X9_isOnce x1 N σ).2) := by
  refine zmeth (cd := kX9_isOnce) [] 1000 (Nat.le_of_ble_eq_true rfl) rfl okX9_isOnce (Nat.le_refl _) (Nat.le_of_ble_eq_true rfl) ?_
  refine And.intro (fun (h1 : ¬ (((σ.1 468 33) >>> (x1 &&& 31)) &&& 1) = 1) => ?_) (fun (h1 : (((σ.1 468 33) >>> (x1 &&& 31)) &&& 1) = 1) => ?_)
  · refine And.intro (fun (h2 : ¬ ((u_X9_isOnce_1 x1 N σ).1 468 25) = 0) => ?_) (fun (h2 : ((u_X9_isOnce_1 x1 N σ).1 468 25) = 0) => ?_)
    · refine And.intro (fun (h3 : ¬ ((u_X9_isOnce_1 x1 N σ).1 468 25) = 0) => ?_) (fun (h3 : ((u_X9_isOnce_1 x1 N σ).1 468 25) = 0) => ?_)
      · exact And.intro rfl (And.intro rfl (And.intro (Or.inl rfl) ⟨by rw [r_X9_isOnce, if_neg h1, if_neg h2, if_neg h3] <;> rfl, by rw [r_X9_isOnce, if_neg h1, if_neg h2, if_neg h3] <;> rfl⟩))
      · exact And.intro rfl (And.intro rfl (And.intro (Or.inr rfl) ⟨by rw [r_X9_isOnce, if_neg h1, if_neg h2, if_pos h3] <;> rfl, by rw [r_X9_isOnce, if_neg h1, if_neg h2, if_pos h3] <;> rfl⟩))
    · refine zCl.use (c_X9_scan N (u_X9_isOnce_1 x1 N σ) ((hp.1 h1) h2)) (Nat.le_of_ble_eq_true rfl) ?_
      rintro _ σz ⟨rfl, hz⟩
      subst σz
      refine And.intro (fun (h4 : ¬ ((u_X9_isOnce_2 x1 N σ).1 468 25) = 0) => ?_) (fun (h4 : ((u_X9_isOnce_2 x1 N σ).1 468 25) = 0) => ?_)
      · exact And.intro rfl (And.intro rfl (And.intro (Or.inl rfl) ⟨by rw [r_X9_isOnce, if_neg h1, if_pos h2, if_neg h4] <;> rfl, by rw [r_X9_isOnce, if_neg h1, if_pos h2, if_neg h4] <;> rfl⟩))
      · exact And.intro rfl (And.intro rfl (And.intro (Or.inr rfl) ⟨by rw [r_X9_isOnce, if_neg h1, if_pos h2, if_pos h4] <;> rfl, by rw [r_X9_isOnce, if_neg h1, if_pos h2, if_pos h4] <;> rfl⟩))
  · refine zCl.use (c_X9_fail 3 σ) (Nat.le_of_ble_eq_true rfl) ?_
    rintro _ σz ⟨rfl, hz⟩
    subst σz
    refine And.intro (fun (h5 : ¬ ((u_X9_isOnce_4 x1 N σ).1 468 25) = 0) => ?_) (fun (h5 : ((u_X9_isOnce_4 x1 N σ).1 468 25) = 0) => ?_)
    · refine And.intro (fun (h6 : ¬ ((u_X9_isOnce_4 x1 N σ).1 468 25) = 0) => ?_) (fun (h6 : ((u_X9_isOnce_4 x1 N σ).1 468 25) = 0) => ?_)
      · exact And.intro rfl (And.intro rfl (And.intro (Or.inl rfl) ⟨by rw [r_X9_isOnce, if_pos h1, if_neg h5, if_neg h6] <;> rfl, by rw [r_X9_isOnce, if_pos h1, if_neg h5, if_neg h6] <;> rfl⟩))
      · exact And.intro rfl (And.intro rfl (And.intro (Or.inr rfl) ⟨by rw [r_X9_isOnce, if_pos h1, if_neg h5, if_pos h6] <;> rfl, by rw [r_X9_isOnce, if_pos h1, if_neg h5, if_pos h6] <;> rfl⟩))
    · refine zCl.use (c_X9_scan N (u_X9_isOnce_4 x1 N σ) ((hp.2 h1) h5)) (Nat.le_of_ble_eq_true rfl) ?_
      rintro _ σz ⟨rfl, hz⟩
      subst σz
      refine And.intro (fun (h7 : ¬ ((u_X9_isOnce_5 x1 N σ).1 468 25) = 0) => ?_) (fun (h7 : ((u_X9_isOnce_5 x1 N σ).1 468 25) = 0) => ?_)
      · exact And.intro rfl (And.intro rfl (And.intro (Or.inl rfl) ⟨by rw [r_X9_isOnce, if_pos h1, if_pos h5, if_neg h7] <;> rfl, by rw [r_X9_isOnce, if_pos h1, if_pos h5, if_neg h7] <;> rfl⟩))
      · exact And.intro rfl (And.intro rfl (And.intro (Or.inr rfl) ⟨by rw [r_X9_isOnce, if_pos h1, if_pos h5, if_pos h7] <;> rfl, by rw [r_X9_isOnce, if_pos h1, if_pos h5, if_pos h7] <;> rfl⟩))
theorem b_X9_isOnce {x1 : Int32} {N : Nat} {σ : zS} : (r_X9_isOnce x1 N σ).1 = 0 ∨ (r_X9_isOnce x1 N σ).1 = 1 := by
  unfold r_X9_isOnce
  (repeat' split) <;> first | exact Or.inl rfl | exact Or.inr rfl
def u_X9_readWay_h0_1 (N : Nat) (v1 : Int32) (σ : zS) : zS := s_X9_scan N σ
def u_X9_readWay_h0_2 (N : Nat) (v1 : Int32) (σ : zS) : zS := (r_X9_numeral 1 8 N (u_X9_readWay_h0_1 N v1 σ)).2
def u_X9_readWay_h0_3 (N : Nat) (v1 : Int32) (σ : zS) : zS := zuI (u_X9_readWay_h0_2 N v1 σ) 472 (v1).toNatClampNeg ((r_X9_numeral 1 8 N (u_X9_readWay_h0_1 N v1 σ)).1)
def u_X9_readWay_h1_1 (N : Nat) (v1 : Int32) (σ : zS) : zS := (r_X9_numeral 1 16 N σ).2
def u_X9_readWay_h1_2 (N : Nat) (v1 : Int32) (σ : zS) : zS := zuI (u_X9_readWay_h1_1 N v1 σ) 472 (v1).toNatClampNeg ((r_X9_numeral 1 16 N σ).1)
def l_X9_readWay (N : Nat) : Nat → Nat → Int32 → zS → zS
  | 0, _, _, σ => σ
  | n + 1, 0, v1, σ => if (σ.1 468 25) ≤ 0 then (if ((u_X9_readWay_h0_1 N v1 σ).1 471 (v1).toNatClampNeg) = 1 then (l_X9_readWay N n 1 v1 (u_X9_readWay_h0_3 N v1 σ)) else (l_X9_readWay N n 1 v1 (u_X9_readWay_h0_1 N v1 σ))) else σ
  | n + 1, 1, v1, σ => if (σ.1 471 (v1).toNatClampNeg) = 3 then (u_X9_readWay_h1_2 N v1 σ) else σ
  | _ + 1, _, _, σ => σ
def q_X9_readWay (N : Nat) : Nat → Nat → Int32 → zS → Prop
  | 0, _, _, _ => False
  | n + 1, 0, v1, σ => (σ.1 468 25) ≤ 0 → (p_X9_scan N σ ∧ (vp_in v1 2 ∧ ((¬ ((u_X9_readWay_h0_1 N v1 σ).1 471 (v1).toNatClampNeg) = 1 → q_X9_readWay N n 1 v1 (u_X9_readWay_h0_1 N v1 σ)) ∧ (((u_X9_readWay_h0_1 N v1 σ).1 471 (v1).toNatClampNeg) = 1 → (p_X9_numeral 1 8 N (u_X9_readWay_h0_1 N v1 σ) ∧ q_X9_readWay N n 1 v1 (u_X9_readWay_h0_3 N v1 σ))))))
  | n + 1, 1, v1, σ => vp_in v1 2 ∧ ((σ.1 471 (v1).toNatClampNeg) = 3 → p_X9_numeral 1 16 N σ)
  | _ + 1, _, _, _ => False
set_option maxRecDepth 100000 in
set_option maxHeartbeats 1000000 in
theorem w_X9_readWay {nx : Nat} (N : Nat) : ∀ n : Nat, (∀ (v1 : Int32) (σ : zS), q_X9_readWay N n 0 v1 σ → zWp 5 zall nx 180 (fun v σ1 => v = none ∧ σ1 = l_X9_readWay N n 0 v1 σ) zall nx 70 [some (.inr (9, 57, 468)), some (.inl v1)] [] σ) ∧ (∀ (v1 : Int32) (σ : zS), q_X9_readWay N n 1 v1 σ → zWp 5 zall nx 180 (fun v σ1 => v = none ∧ σ1 = l_X9_readWay N n 1 v1 σ) zall nx 105 [some (.inr (9, 57, 468)), some (.inl v1)] [] σ) := by
  intro n
  induction n with
  | zero => exact ⟨fun _ _ h => h.elim, fun _ _ h => h.elim⟩
  | succ n ih =>
    refine ⟨?_, ?_⟩
    · intro v1 σ hp
      rw [q_X9_readWay] at hp
      refine zvc_sound (cd := kX9_readWay) (cs := [70, 105]) rfl okX9_readWay 1000 _ _ 70 (zseek kX9_readWay 70) _ _ _ zseek_sub ?_
      refine And.intro (fun (h1 : (σ.1 468 25) ≤ 0) => ?_) (fun (h1 : ¬ (σ.1 468 25) ≤ 0) => ?_)
      · refine zCl.use (c_X9_scan N σ (hp h1).1) (Nat.le_of_ble_eq_true rfl) ?_
        rintro _ σz ⟨rfl, hz⟩
        subst σz
        refine And.intro (hp h1).2.1 ?_
        refine And.intro (fun (h2 : ¬ ((u_X9_readWay_h0_1 N v1 σ).1 471 (v1).toNatClampNeg) = 1) => ?_) (fun (h2 : ((u_X9_readWay_h0_1 N v1 σ).1 471 (v1).toNatClampNeg) = 1) => ?_)
        · refine zWp.use (ih.2 v1 (u_X9_readWay_h0_1 N v1 σ) ((hp h1).2.2.1 h2)) (And.intro rfl (And.intro rfl trivial)) (fun vy σy hy => ?_)
          rw [l_X9_readWay, if_pos h1, if_neg h2]; exact hy
        · refine zCl.use (c_X9_numeral 1 8 N (u_X9_readWay_h0_1 N v1 σ) ((hp h1).2.2.2 h2).1) (Nat.le_of_ble_eq_true rfl) ?_
          rintro _ σz ⟨rfl, hz⟩
          subst σz
          refine And.intro (hp h1).2.1 ?_
          refine zWp.use (ih.2 v1 (u_X9_readWay_h0_3 N v1 σ) ((hp h1).2.2.2 h2).2) (And.intro rfl (And.intro rfl trivial)) (fun vy σy hy => ?_)
          rw [l_X9_readWay, if_pos h1, if_pos h2]; exact hy
      · exact And.intro rfl (And.intro rfl ⟨rfl, by rw [l_X9_readWay, if_neg h1] <;> rfl⟩)
    · intro v1 σ hp
      rw [q_X9_readWay] at hp
      refine zvc_sound (cd := kX9_readWay) (cs := [70, 105]) rfl okX9_readWay 1000 _ _ 105 (zseek kX9_readWay 105) _ _ _ zseek_sub ?_
      refine And.intro hp.1 ?_
      refine And.intro (fun (h1 : ¬ (σ.1 471 (v1).toNatClampNeg) = 3) => ?_) (fun (h1 : (σ.1 471 (v1).toNatClampNeg) = 3) => ?_)
      · exact And.intro rfl (And.intro rfl ⟨rfl, by rw [l_X9_readWay, if_neg h1] <;> rfl⟩)
      · refine zCl.use (c_X9_numeral 1 16 N σ (hp.2 h1)) (Nat.le_of_ble_eq_true rfl) ?_
        rintro _ σz ⟨rfl, hz⟩
        subst σz
        refine And.intro hp.1 ?_
        exact And.intro rfl (And.intro rfl ⟨rfl, by rw [l_X9_readWay, if_pos h1] <;> rfl⟩)
def u_X9_readWay_1 (x1 : Int32) (N : Nat) (σ : zS) : zS := zuI σ 471 (x1).toNatClampNeg 3
def u_X9_readWay_2 (x1 : Int32) (N : Nat) (σ : zS) : zS := s_X9_fail 1 (u_X9_readWay_1 x1 N σ)
def u_X9_readWay_3 (x1 : Int32) (N : Nat) (σ : zS) : zS := zuI σ 471 (x1).toNatClampNeg 2
def u_X9_readWay_4 (x1 : Int32) (N : Nat) (σ : zS) : zS := s_X9_fail 1 (u_X9_readWay_3 x1 N σ)
def u_X9_readWay_5 (x1 : Int32) (N : Nat) (σ : zS) : zS := zuI σ 471 (x1).toNatClampNeg 1
def u_X9_readWay_6 (x1 : Int32) (N : Nat) (σ : zS) : zS := s_X9_fail 1 (u_X9_readWay_5 x1 N σ)
def u_X9_readWay_7 (x1 : Int32) (N : Nat) (σ : zS) : zS := zuI σ 471 (x1).toNatClampNeg 0
def u_X9_readWay_8 (x1 : Int32) (N : Nat) (σ : zS) : zS := s_X9_fail 1 (u_X9_readWay_7 x1 N σ)
def s_X9_readWay (x1 : Int32) (N : Nat) (σ : zS) : zS := if (f_X9_isWord 6 σ) = 0 then (if (f_X9_isWord 7 σ) = 0 then (if (f_X9_isWord 8 σ) = 0 then (if ((u_X9_readWay_1 x1 N σ).1 471 (x1).toNatClampNeg) = 3 then (if (f_X9_isWord 9 (u_X9_readWay_1 x1 N σ)) = 0 then (l_X9_readWay N N 0 x1 (u_X9_readWay_2 x1 N σ)) else (l_X9_readWay N N 0 x1 (u_X9_readWay_1 x1 N σ))) else (l_X9_readWay N N 0 x1 (u_X9_readWay_1 x1 N σ))) else (if ((u_X9_readWay_3 x1 N σ).1 471 (x1).toNatClampNeg) = 3 then (if (f_X9_isWord 9 (u_X9_readWay_3 x1 N σ)) = 0 then (l_X9_readWay N N 0 x1 (u_X9_readWay_4 x1 N σ)) else (l_X9_readWay N N 0 x1 (u_X9_readWay_3 x1 N σ))) else (l_X9_readWay N N 0 x1 (u_X9_readWay_3 x1 N σ)))) else (if ((u_X9_readWay_5 x1 N σ).1 471 (x1).toNatClampNeg) = 3 then (if (f_X9_isWord 9 (u_X9_readWay_5 x1 N σ)) = 0 then (l_X9_readWay N N 0 x1 (u_X9_readWay_6 x1 N σ)) else (l_X9_readWay N N 0 x1 (u_X9_readWay_5 x1 N σ))) else (l_X9_readWay N N 0 x1 (u_X9_readWay_5 x1 N σ)))) else (if ((u_X9_readWay_7 x1 N σ).1 471 (x1).toNatClampNeg) = 3 then (if (f_X9_isWord 9 (u_X9_readWay_7 x1 N σ)) = 0 then (l_X9_readWay N N 0 x1 (u_X9_readWay_8 x1 N σ)) else (l_X9_readWay N N 0 x1 (u_X9_readWay_7 x1 N σ))) else (l_X9_readWay N N 0 x1 (u_X9_readWay_7 x1 N σ)))
def p_X9_readWay (x1 : Int32) (N : Nat) (σ : zS) : Prop := ((f_X9_isWord 6 σ) = 0 → (((f_X9_isWord 7 σ) = 0 → (((f_X9_isWord 8 σ) = 0 → (vp_in x1 2 ∧ ((¬ ((u_X9_readWay_1 x1 N σ).1 471 (x1).toNatClampNeg) = 3 → q_X9_readWay N N 0 x1 (u_X9_readWay_1 x1 N σ)) ∧ (((u_X9_readWay_1 x1 N σ).1 471 (x1).toNatClampNeg) = 3 → ((¬ (f_X9_isWord 9 (u_X9_readWay_1 x1 N σ)) = 0 → q_X9_readWay N N 0 x1 (u_X9_readWay_1 x1 N σ)) ∧ ((f_X9_isWord 9 (u_X9_readWay_1 x1 N σ)) = 0 → q_X9_readWay N N 0 x1 (u_X9_readWay_2 x1 N σ))))))) ∧ (¬ (f_X9_isWord 8 σ) = 0 → (vp_in x1 2 ∧ ((¬ ((u_X9_readWay_3 x1 N σ).1 471 (x1).toNatClampNeg) = 3 → q_X9_readWay N N 0 x1 (u_X9_readWay_3 x1 N σ)) ∧ (((u_X9_readWay_3 x1 N σ).1 471 (x1).toNatClampNeg) = 3 → ((¬ (f_X9_isWord 9 (u_X9_readWay_3 x1 N σ)) = 0 → q_X9_readWay N N 0 x1 (u_X9_readWay_3 x1 N σ)) ∧ ((f_X9_isWord 9 (u_X9_readWay_3 x1 N σ)) = 0 → q_X9_readWay N N 0 x1 (u_X9_readWay_4 x1 N σ))))))))) ∧ (¬ (f_X9_isWord 7 σ) = 0 → (vp_in x1 2 ∧ ((¬ ((u_X9_readWay_5 x1 N σ).1 471 (x1).toNatClampNeg) = 3 → q_X9_readWay N N 0 x1 (u_X9_readWay_5 x1 N σ)) ∧ (((u_X9_readWay_5 x1 N σ).1 471 (x1).toNatClampNeg) = 3 → ((¬ (f_X9_isWord 9 (u_X9_readWay_5 x1 N σ)) = 0 → q_X9_readWay N N 0 x1 (u_X9_readWay_5 x1 N σ)) ∧ ((f_X9_isWord 9 (u_X9_readWay_5 x1 N σ)) = 0 → q_X9_readWay N N 0 x1 (u_X9_readWay_6 x1 N σ))))))))) ∧ (¬ (f_X9_isWord 6 σ) = 0 → (vp_in x1 2 ∧ ((¬ ((u_X9_readWay_7 x1 N σ).1 471 (x1).toNatClampNeg) = 3 → q_X9_readWay N N 0 x1 (u_X9_readWay_7 x1 N σ)) ∧ (((u_X9_readWay_7 x1 N σ).1 471 (x1).toNatClampNeg) = 3 → ((¬ (f_X9_isWord 9 (u_X9_readWay_7 x1 N σ)) = 0 → q_X9_readWay N N 0 x1 (u_X9_readWay_7 x1 N σ)) ∧ ((f_X9_isWord 9 (u_X9_readWay_7 x1 N σ)) = 0 → q_X9_readWay N N 0 x1 (u_X9_readWay_8 x1 N σ)))))))
set_option maxRecDepth 100000 in
set_option maxHeartbeats 1000000 in
theorem c_X9_readWay {nx : Nat} (x1 : Int32) (N : Nat) (σ : zS) (hp : p_X9_readWay x1 N σ) : zCl 5 zall nx zall nx 180 [.inr (9, 57, 468), .inl x1] σ (fun v σ1 => v = none ∧ σ1 = s_X9_readWay x1 N σ) := by
  refine zmeth (cd := kX9_readWay) [70, 105] 1000 (Nat.le_of_ble_eq_true rfl) rfl okX9_readWay (Nat.le_refl _) (Nat.le_of_ble_eq_true rfl) ?_
  refine zCl.use (c_X9_isWord 6 σ) (Nat.le_of_ble_eq_true rfl) ?_
  rintro _ σz ⟨rfl, hz⟩
  subst σz
  refine And.intro (fun (h1 : (f_X9_isWord 6 σ) = 0) => ?_) (fun (h1 : ¬ (f_X9_isWord 6 σ) = 0) => ?_)
  · refine zCl.use (c_X9_isWord 7 σ) (Nat.le_of_ble_eq_true rfl) ?_
    rintro _ σz ⟨rfl, hz⟩
    subst σz
    refine And.intro (fun (h2 : (f_X9_isWord 7 σ) = 0) => ?_) (fun (h2 : ¬ (f_X9_isWord 7 σ) = 0) => ?_)
    · refine zCl.use (c_X9_isWord 8 σ) (Nat.le_of_ble_eq_true rfl) ?_
      rintro _ σz ⟨rfl, hz⟩
      subst σz
      refine And.intro (fun (h3 : (f_X9_isWord 8 σ) = 0) => ?_) (fun (h3 : ¬ (f_X9_isWord 8 σ) = 0) => ?_)
      · refine And.intro (((hp.1 h1).1 h2).1 h3).1 ?_
        refine And.intro (((hp.1 h1).1 h2).1 h3).1 ?_
        refine And.intro (fun (h4 : ¬ ((u_X9_readWay_1 x1 N σ).1 471 (x1).toNatClampNeg) = 3) => ?_) (fun (h4 : ((u_X9_readWay_1 x1 N σ).1 471 (x1).toNatClampNeg) = 3) => ?_)
        · refine zWp.use ((w_X9_readWay N N).1 x1 (u_X9_readWay_1 x1 N σ) ((((hp.1 h1).1 h2).1 h3).2.1 h4)) (And.intro rfl (And.intro rfl trivial)) (fun vy σy hy => ?_)
          rw [s_X9_readWay, if_pos h1, if_pos h2, if_pos h3, if_neg h4]; exact hy
        · refine zCl.use (c_X9_isWord 9 (u_X9_readWay_1 x1 N σ)) (Nat.le_of_ble_eq_true rfl) ?_
          rintro _ σz ⟨rfl, hz⟩
          subst σz
          refine And.intro (fun (h5 : ¬ (f_X9_isWord 9 (u_X9_readWay_1 x1 N σ)) = 0) => ?_) (fun (h5 : (f_X9_isWord 9 (u_X9_readWay_1 x1 N σ)) = 0) => ?_)
          · refine zWp.use ((w_X9_readWay N N).1 x1 (u_X9_readWay_1 x1 N σ) (((((hp.1 h1).1 h2).1 h3).2.2 h4).1 h5)) (And.intro rfl (And.intro rfl trivial)) (fun vy σy hy => ?_)
            rw [s_X9_readWay, if_pos h1, if_pos h2, if_pos h3, if_pos h4, if_neg h5]; exact hy
          · refine zCl.use (c_X9_fail 1 (u_X9_readWay_1 x1 N σ)) (Nat.le_of_ble_eq_true rfl) ?_
            rintro _ σz ⟨rfl, hz⟩
            subst σz
            refine zWp.use ((w_X9_readWay N N).1 x1 (u_X9_readWay_2 x1 N σ) (((((hp.1 h1).1 h2).1 h3).2.2 h4).2 h5)) (And.intro rfl (And.intro rfl trivial)) (fun vy σy hy => ?_)
            rw [s_X9_readWay, if_pos h1, if_pos h2, if_pos h3, if_pos h4, if_pos h5]; exact hy
      · refine And.intro (((hp.1 h1).1 h2).2 h3).1 ?_
        refine And.intro (((hp.1 h1).1 h2).2 h3).1 ?_
        refine And.intro (fun (h6 : ¬ ((u_X9_readWay_3 x1 N σ).1 471 (x1).toNatClampNeg) = 3) => ?_) (fun (h6 : ((u_X9_readWay_3 x1 N σ).1 471 (x1).toNatClampNeg) = 3) => ?_)
        · refine zWp.use ((w_X9_readWay N N).1 x1 (u_X9_readWay_3 x1 N σ) ((((hp.1 h1).1 h2).2 h3).2.1 h6)) (And.intro rfl (And.intro rfl trivial)) (fun vy σy hy => ?_)
          rw [s_X9_readWay, if_pos h1, if_pos h2, if_neg h3, if_neg h6]; exact hy
        · refine zCl.use (c_X9_isWord 9 (u_X9_readWay_3 x1 N σ)) (Nat.le_of_ble_eq_true rfl) ?_
          rintro _ σz ⟨rfl, hz⟩
          subst σz
          refine And.intro (fun (h7 : ¬ (f_X9_isWord 9 (u_X9_readWay_3 x1 N σ)) = 0) => ?_) (fun (h7 : (f_X9_isWord 9 (u_X9_readWay_3 x1 N σ)) = 0) => ?_)
          · refine zWp.use ((w_X9_readWay N N).1 x1 (u_X9_readWay_3 x1 N σ) (((((hp.1 h1).1 h2).2 h3).2.2 h6).1 h7)) (And.intro rfl (And.intro rfl trivial)) (fun vy σy hy => ?_)
            rw [s_X9_readWay, if_pos h1, if_pos h2, if_neg h3, if_pos h6, if_neg h7]; exact hy
          · refine zCl.use (c_X9_fail 1 (u_X9_readWay_3 x1 N σ)) (Nat.le_of_ble_eq_true rfl) ?_
            rintro _ σz ⟨rfl, hz⟩
            subst σz
            refine zWp.use ((w_X9_readWay N N).1 x1 (u_X9_readWay_4 x1 N σ) (((((hp.1 h1).1 h2).2 h3).2.2 h6).2 h7)) (And.intro rfl (And.intro rfl trivial)) (fun vy σy hy => ?_)
            rw [s_X9_readWay, if_pos h1, if_pos h2, if_neg h3, if_pos h6, if_pos h7]; exact hy
    · refine And.intro ((hp.1 h1).2 h2).1 ?_
      refine And.intro ((hp.1 h1).2 h2).1 ?_
      refine And.intro (fun (h8 : ¬ ((u_X9_readWay_5 x1 N σ).1 471 (x1).toNatClampNeg) = 3) => ?_) (fun (h8 : ((u_X9_readWay_5 x1 N σ).1 471 (x1).toNatClampNeg) = 3) => ?_)
      · refine zWp.use ((w_X9_readWay N N).1 x1 (u_X9_readWay_5 x1 N σ) (((hp.1 h1).2 h2).2.1 h8)) (And.intro rfl (And.intro rfl trivial)) (fun vy σy hy => ?_)
        rw [s_X9_readWay, if_pos h1, if_neg h2, if_neg h8]; exact hy
      · refine zCl.use (c_X9_isWord 9 (u_X9_readWay_5 x1 N σ)) (Nat.le_of_ble_eq_true rfl) ?_
        rintro _ σz ⟨rfl, hz⟩
        subst σz
        refine And.intro (fun (h9 : ¬ (f_X9_isWord 9 (u_X9_readWay_5 x1 N σ)) = 0) => ?_) (fun (h9 : (f_X9_isWord 9 (u_X9_readWay_5 x1 N σ)) = 0) => ?_)
        · refine zWp.use ((w_X9_readWay N N).1 x1 (u_X9_readWay_5 x1 N σ) ((((hp.1 h1).2 h2).2.2 h8).1 h9)) (And.intro rfl (And.intro rfl trivial)) (fun vy σy hy => ?_)
          rw [s_X9_readWay, if_pos h1, if_neg h2, if_pos h8, if_neg h9]; exact hy
        · refine zCl.use (c_X9_fail 1 (u_X9_readWay_5 x1 N σ)) (Nat.le_of_ble_eq_true rfl) ?_
          rintro _ σz ⟨rfl, hz⟩
          subst σz
          refine zWp.use ((w_X9_readWay N N).1 x1 (u_X9_readWay_6 x1 N σ) ((((hp.1 h1).2 h2).2.2 h8).2 h9)) (And.intro rfl (And.intro rfl trivial)) (fun vy σy hy => ?_)
          rw [s_X9_readWay, if_pos h1, if_neg h2, if_pos h8, if_pos h9]; exact hy
  · refine And.intro (hp.2 h1).1 ?_
    refine And.intro (hp.2 h1).1 ?_
    refine And.intro (fun (h10 : ¬ ((u_X9_readWay_7 x1 N σ).1 471 (x1).toNatClampNeg) = 3) => ?_) (fun (h10 : ((u_X9_readWay_7 x1 N σ).1 471 (x1).toNatClampNeg) = 3) => ?_)
    · refine zWp.use ((w_X9_readWay N N).1 x1 (u_X9_readWay_7 x1 N σ) ((hp.2 h1).2.1 h10)) (And.intro rfl (And.intro rfl trivial)) (fun vy σy hy => ?_)
      rw [s_X9_readWay, if_neg h1, if_neg h10]; exact hy
    · refine zCl.use (c_X9_isWord 9 (u_X9_readWay_7 x1 N σ)) (Nat.le_of_ble_eq_true rfl) ?_
      rintro _ σz ⟨rfl, hz⟩
      subst σz
      refine And.intro (fun (h11 : ¬ (f_X9_isWord 9 (u_X9_readWay_7 x1 N σ)) = 0) => ?_) (fun (h11 : (f_X9_isWord 9 (u_X9_readWay_7 x1 N σ)) = 0) => ?_)
      · refine zWp.use ((w_X9_readWay N N).1 x1 (u_X9_readWay_7 x1 N σ) (((hp.2 h1).2.2 h10).1 h11)) (And.intro rfl (And.intro rfl trivial)) (fun vy σy hy => ?_)
        rw [s_X9_readWay, if_neg h1, if_pos h10, if_neg h11]; exact hy
      · refine zCl.use (c_X9_fail 1 (u_X9_readWay_7 x1 N σ)) (Nat.le_of_ble_eq_true rfl) ?_
        rintro _ σz ⟨rfl, hz⟩
        subst σz
        refine zWp.use ((w_X9_readWay N N).1 x1 (u_X9_readWay_8 x1 N σ) (((hp.2 h1).2.2 h10).2 h11)) (And.intro rfl (And.intro rfl trivial)) (fun vy σy hy => ?_)
        rw [s_X9_readWay, if_neg h1, if_pos h10, if_pos h11]; exact hy
def u_X9_readGiven_h0_1 (N : Nat) (v1 : Int32) (v2 : Int32) (v3 : Int32) (σ : zS) : zS := s_X9_fail 5 σ
def u_X9_readGiven_h1_1 (N : Nat) (v1 : Int32) (v2 : Int32) (v3 : Int32) (σ : zS) : zS := s_X9_scan N σ
def u_X9_readGiven_h2_1 (N : Nat) (v1 : Int32) (v2 : Int32) (v3 : Int32) (σ : zS) : zS := (r_X9_numeral 0 9999 N σ).2
def u_X9_readGiven_h2_2 (N : Nat) (v1 : Int32) (v2 : Int32) (v3 : Int32) (σ : zS) : zS := zuI (u_X9_readGiven_h2_1 N v1 v2 v3 σ) 483 (v1).toNatClampNeg ((r_X9_numeral 0 9999 N σ).1)
def u_X9_readGiven_h2_3 (N : Nat) (v1 : Int32) (v2 : Int32) (v3 : Int32) (σ : zS) : zS := zuI (u_X9_readGiven_h2_1 N v1 v2 v3 σ) 483 (v1).toNatClampNeg (-((r_X9_numeral 0 9999 N σ).1))
def l_X9_readGiven (N : Nat) : Nat → Nat → Int32 → Int32 → Int32 → zS → zS
  | 0, _, _, _, _, σ => σ
  | n + 1, 0, v1, v2, v3, σ => if v2 = 0 then (l_X9_readGiven N n 1 v1 v2 v3 σ) else (l_X9_readGiven N n 1 v1 v2 v3 (u_X9_readGiven_h0_1 N v1 v2 v3 σ))
  | n + 1, 1, v1, v2, v3, σ => if v3 = 0 then (l_X9_readGiven N n 2 v1 v2 v3 σ) else (if (σ.1 468 25) = 0 then (l_X9_readGiven N n 2 v1 v2 v3 (u_X9_readGiven_h1_1 N v1 v2 v3 σ)) else (l_X9_readGiven N n 2 v1 v2 v3 σ))
  | n + 1, 2, v1, v2, v3, σ => if ((u_X9_readGiven_h2_1 N v1 v2 v3 σ).1 468 25) = 0 then (if v3 = 0 then (u_X9_readGiven_h2_2 N v1 v2 v3 σ) else (u_X9_readGiven_h2_3 N v1 v2 v3 σ)) else (u_X9_readGiven_h2_1 N v1 v2 v3 σ)
  | _ + 1, _, _, _, _, σ => σ
def q_X9_readGiven (N : Nat) : Nat → Nat → Int32 → Int32 → Int32 → zS → Prop
  | 0, _, _, _, _, _ => False
  | n + 1, 0, v1, v2, v3, σ => (v2 = 0 → q_X9_readGiven N n 1 v1 v2 v3 σ) ∧ (¬ v2 = 0 → q_X9_readGiven N n 1 v1 v2 v3 (u_X9_readGiven_h0_1 N v1 v2 v3 σ))
  | n + 1, 1, v1, v2, v3, σ => (v3 = 0 → q_X9_readGiven N n 2 v1 v2 v3 σ) ∧ (¬ v3 = 0 → ((¬ (σ.1 468 25) = 0 → q_X9_readGiven N n 2 v1 v2 v3 σ) ∧ ((σ.1 468 25) = 0 → (p_X9_scan N σ ∧ q_X9_readGiven N n 2 v1 v2 v3 (u_X9_readGiven_h1_1 N v1 v2 v3 σ)))))
  | n + 1, 2, v1, v2, v3, σ => p_X9_numeral 0 9999 N σ ∧ (((u_X9_readGiven_h2_1 N v1 v2 v3 σ).1 468 25) = 0 → ((v3 = 0 → vp_in v1 32) ∧ (¬ v3 = 0 → vp_in v1 32)))
  | _ + 1, _, _, _, _, _ => False
set_option maxRecDepth 100000 in
set_option maxHeartbeats 1000000 in
theorem w_X9_readGiven {nx : Nat} (N : Nat) : ∀ n : Nat, (∀ (v1 : Int32) (v2 : Int32) (v3 : Int32) (σ : zS), q_X9_readGiven N n 0 v1 v2 v3 σ → zWp 5 zall nx 182 (fun v σ1 => v = none ∧ σ1 = l_X9_readGiven N n 0 v1 v2 v3 σ) zall nx 30 [some (.inr (9, 57, 468)), some (.inl v1), some (.inl v2), some (.inl v3), none] [] σ) ∧ (∀ (v1 : Int32) (v2 : Int32) (v3 : Int32) (σ : zS), q_X9_readGiven N n 1 v1 v2 v3 σ → zWp 5 zall nx 182 (fun v σ1 => v = none ∧ σ1 = l_X9_readGiven N n 1 v1 v2 v3 σ) zall nx 39 [some (.inr (9, 57, 468)), some (.inl v1), some (.inl v2), some (.inl v3), none] [] σ) ∧ (∀ (v1 : Int32) (v2 : Int32) (v3 : Int32) (σ : zS), q_X9_readGiven N n 2 v1 v2 v3 σ → zWp 5 zall nx 182 (fun v σ1 => v = none ∧ σ1 = l_X9_readGiven N n 2 v1 v2 v3 σ) zall nx 54 [some (.inr (9, 57, 468)), some (.inl v1), some (.inl v2), some (.inl v3), none] [] σ) := by
  intro n
  induction n with
  | zero => exact ⟨fun _ _ _ _ h => h.elim, fun _ _ _ _ h => h.elim, fun _ _ _ _ h => h.elim⟩
  | succ n ih =>
    refine ⟨?_, ?_, ?_⟩
    · intro v1 v2 v3 σ hp
      rw [q_X9_readGiven] at hp
      refine zvc_sound (cd := kX9_readGiven) (cs := [30, 39, 54]) rfl okX9_readGiven 1000 _ _ 30 (zseek kX9_readGiven 30) _ _ _ zseek_sub ?_
      refine And.intro (fun (h1 : v2 = 0) => ?_) (fun (h1 : ¬ v2 = 0) => ?_)
      · refine zWp.use (ih.2.1 v1 v2 v3 σ (hp.1 h1)) (And.intro rfl (And.intro rfl (And.intro rfl (And.intro rfl trivial)))) (fun vy σy hy => ?_)
        rw [l_X9_readGiven, if_pos h1]; exact hy
      · refine zCl.use (c_X9_fail 5 σ) (Nat.le_of_ble_eq_true rfl) ?_
        rintro _ σz ⟨rfl, hz⟩
        subst σz
        refine zWp.use (ih.2.1 v1 v2 v3 (u_X9_readGiven_h0_1 N v1 v2 v3 σ) (hp.2 h1)) (And.intro rfl (And.intro rfl (And.intro rfl (And.intro rfl trivial)))) (fun vy σy hy => ?_)
        rw [l_X9_readGiven, if_neg h1]; exact hy
    · intro v1 v2 v3 σ hp
      rw [q_X9_readGiven] at hp
      refine zvc_sound (cd := kX9_readGiven) (cs := [30, 39, 54]) rfl okX9_readGiven 1000 _ _ 39 (zseek kX9_readGiven 39) _ _ _ zseek_sub ?_
      refine And.intro (fun (h1 : v3 = 0) => ?_) (fun (h1 : ¬ v3 = 0) => ?_)
      · refine zWp.use (ih.2.2 v1 v2 v3 σ (hp.1 h1)) (And.intro rfl (And.intro rfl (And.intro rfl (And.intro rfl trivial)))) (fun vy σy hy => ?_)
        rw [l_X9_readGiven, if_pos h1]; exact hy
      · refine And.intro (fun (h2 : ¬ (σ.1 468 25) = 0) => ?_) (fun (h2 : (σ.1 468 25) = 0) => ?_)
        · refine zWp.use (ih.2.2 v1 v2 v3 σ ((hp.2 h1).1 h2)) (And.intro rfl (And.intro rfl (And.intro rfl (And.intro rfl trivial)))) (fun vy σy hy => ?_)
          rw [l_X9_readGiven, if_neg h1, if_neg h2]; exact hy
        · refine zCl.use (c_X9_scan N σ ((hp.2 h1).2 h2).1) (Nat.le_of_ble_eq_true rfl) ?_
          rintro _ σz ⟨rfl, hz⟩
          subst σz
          refine zWp.use (ih.2.2 v1 v2 v3 (u_X9_readGiven_h1_1 N v1 v2 v3 σ) ((hp.2 h1).2 h2).2) (And.intro rfl (And.intro rfl (And.intro rfl (And.intro rfl trivial)))) (fun vy σy hy => ?_)
          rw [l_X9_readGiven, if_neg h1, if_pos h2]; exact hy
    · intro v1 v2 v3 σ hp
      rw [q_X9_readGiven] at hp
      refine zvc_sound (cd := kX9_readGiven) (cs := [30, 39, 54]) rfl okX9_readGiven 1000 _ _ 54 (zseek kX9_readGiven 54) _ _ _ zseek_sub ?_
      refine zCl.use (c_X9_numeral 0 9999 N σ hp.1) (Nat.le_of_ble_eq_true rfl) ?_
      rintro _ σz ⟨rfl, hz⟩
      subst σz
      refine And.intro (fun (h1 : ¬ ((u_X9_readGiven_h2_1 N v1 v2 v3 σ).1 468 25) = 0) => ?_) (fun (h1 : ((u_X9_readGiven_h2_1 N v1 v2 v3 σ).1 468 25) = 0) => ?_)
      · exact And.intro rfl (And.intro rfl ⟨rfl, by rw [l_X9_readGiven, if_neg h1] <;> rfl⟩)
      · refine And.intro (fun (h2 : v3 = 0) => ?_) (fun (h2 : ¬ v3 = 0) => ?_)
        · refine And.intro ((hp.2 h1).1 h2) ?_
          exact And.intro rfl (And.intro rfl ⟨rfl, by rw [l_X9_readGiven, if_pos h1, if_pos h2] <;> rfl⟩)
        · refine And.intro ((hp.2 h1).2 h2) ?_
          exact And.intro rfl (And.intro rfl ⟨rfl, by rw [l_X9_readGiven, if_pos h1, if_neg h2] <;> rfl⟩)
def u_X9_readGiven_1 (x1 : Int32) (x2 : Int32) (N : Nat) (σ : zS) : zS := s_X9_fail 2 σ
def s_X9_readGiven (x1 : Int32) (x2 : Int32) (N : Nat) (σ : zS) : zS := if (σ.1 468 22) = 3 then (if (σ.1 468 23) ≤ 9999 then (l_X9_readGiven N N 0 x1 x2 (f_X9_isAt 45 σ) σ) else (l_X9_readGiven N N 0 x1 x2 (f_X9_isAt 45 σ) (u_X9_readGiven_1 x1 x2 N σ))) else (l_X9_readGiven N N 0 x1 x2 (f_X9_isAt 45 σ) σ)
def p_X9_readGiven (x1 : Int32) (x2 : Int32) (N : Nat) (σ : zS) : Prop := p_X9_isAt 45 σ ∧ ((¬ (σ.1 468 22) = 3 → q_X9_readGiven N N 0 x1 x2 (f_X9_isAt 45 σ) σ) ∧ ((σ.1 468 22) = 3 → (((σ.1 468 23) ≤ 9999 → q_X9_readGiven N N 0 x1 x2 (f_X9_isAt 45 σ) σ) ∧ (¬ (σ.1 468 23) ≤ 9999 → q_X9_readGiven N N 0 x1 x2 (f_X9_isAt 45 σ) (u_X9_readGiven_1 x1 x2 N σ)))))
set_option maxRecDepth 100000 in
set_option maxHeartbeats 1000000 in
theorem c_X9_readGiven {nx : Nat} (x1 : Int32) (x2 : Int32) (N : Nat) (σ : zS) (hp : p_X9_readGiven x1 x2 N σ) : zCl 5 zall nx zall nx 182 [.inr (9, 57, 468), .inl x1, .inl x2] σ (fun v σ1 => v = none ∧ σ1 = s_X9_readGiven x1 x2 N σ) := by
  refine zmeth (cd := kX9_readGiven) [30, 39, 54] 1000 (Nat.le_of_ble_eq_true rfl) rfl okX9_readGiven (Nat.le_refl _) (Nat.le_of_ble_eq_true rfl) ?_
  refine zCl.use (c_X9_isAt 45 σ hp.1) (Nat.le_of_ble_eq_true rfl) ?_
  rintro _ σz ⟨rfl, hz⟩
  subst σz
  refine And.intro (fun (h1 : ¬ (σ.1 468 22) = 3) => ?_) (fun (h1 : (σ.1 468 22) = 3) => ?_)
  · refine zWp.use ((w_X9_readGiven N N).1 x1 x2 (f_X9_isAt 45 σ) σ (hp.2.1 h1)) (And.intro rfl (And.intro rfl (And.intro rfl (And.intro rfl trivial)))) (fun vy σy hy => ?_)
    rw [s_X9_readGiven, if_neg h1]; exact hy
  · refine And.intro (fun (h2 : (σ.1 468 23) ≤ 9999) => ?_) (fun (h2 : ¬ (σ.1 468 23) ≤ 9999) => ?_)
    · refine zWp.use ((w_X9_readGiven N N).1 x1 x2 (f_X9_isAt 45 σ) σ ((hp.2.2 h1).1 h2)) (And.intro rfl (And.intro rfl (And.intro rfl (And.intro rfl trivial)))) (fun vy σy hy => ?_)
      rw [s_X9_readGiven, if_pos h1, if_pos h2]; exact hy
    · refine zCl.use (c_X9_fail 2 σ) (Nat.le_of_ble_eq_true rfl) ?_
      rintro _ σz ⟨rfl, hz⟩
      subst σz
      refine zWp.use ((w_X9_readGiven N N).1 x1 x2 (f_X9_isAt 45 σ) (u_X9_readGiven_1 x1 x2 N σ) ((hp.2.2 h1).2 h2)) (And.intro rfl (And.intro rfl (And.intro rfl (And.intro rfl trivial)))) (fun vy σy hy => ?_)
      rw [s_X9_readGiven, if_pos h1, if_neg h2]; exact hy
def u_X9_openIf_1 (x1 : Int32) (N : Nat) (σ : zS) : zS := s_X9_fail 5 σ
def u_X9_openIf_2 (x1 : Int32) (N : Nat) (σ : zS) : zS := s_X9_push 100 0 0 (u_X9_openIf_1 x1 N σ)
def u_X9_openIf_3 (x1 : Int32) (N : Nat) (σ : zS) : zS := zuI (u_X9_openIf_2 x1 N σ) 468 38 (((u_X9_openIf_2 x1 N σ).1 468 38) + 1)
def u_X9_openIf_4 (x1 : Int32) (N : Nat) (σ : zS) : zS := s_X9_scan N (u_X9_openIf_3 x1 N σ)
def u_X9_openIf_5 (x1 : Int32) (N : Nat) (σ : zS) : zS := zuI (u_X9_openIf_4 x1 N σ) 468 39 1
def u_X9_openIf_6 (x1 : Int32) (N : Nat) (σ : zS) : zS := s_X9_push 100 0 0 σ
def u_X9_openIf_7 (x1 : Int32) (N : Nat) (σ : zS) : zS := zuI (u_X9_openIf_6 x1 N σ) 468 38 (((u_X9_openIf_6 x1 N σ).1 468 38) + 1)
def u_X9_openIf_8 (x1 : Int32) (N : Nat) (σ : zS) : zS := s_X9_scan N (u_X9_openIf_7 x1 N σ)
def u_X9_openIf_9 (x1 : Int32) (N : Nat) (σ : zS) : zS := zuI (u_X9_openIf_8 x1 N σ) 468 39 1
def u_X9_openIf_10 (x1 : Int32) (N : Nat) (σ : zS) : zS := s_X9_fail 5 σ
def u_X9_openIf_11 (x1 : Int32) (N : Nat) (σ : zS) : zS := s_X9_push 100 0 0 (u_X9_openIf_10 x1 N σ)
def u_X9_openIf_12 (x1 : Int32) (N : Nat) (σ : zS) : zS := zuI (u_X9_openIf_11 x1 N σ) 468 38 (((u_X9_openIf_11 x1 N σ).1 468 38) + 1)
def u_X9_openIf_13 (x1 : Int32) (N : Nat) (σ : zS) : zS := s_X9_scan N (u_X9_openIf_12 x1 N σ)
def u_X9_openIf_14 (x1 : Int32) (N : Nat) (σ : zS) : zS := zuI (u_X9_openIf_13 x1 N σ) 468 39 1
def s_X9_openIf (x1 : Int32) (N : Nat) (σ : zS) : zS := if 5 < (σ.1 468 38) then (if ((u_X9_openIf_1 x1 N σ).1 468 25) ≤ 0 then (u_X9_openIf_5 x1 N σ) else (u_X9_openIf_1 x1 N σ)) else (if (f_X9_isTooMany x1 σ) = 0 then (if (σ.1 468 25) ≤ 0 then (u_X9_openIf_9 x1 N σ) else σ) else (if ((u_X9_openIf_10 x1 N σ).1 468 25) ≤ 0 then (u_X9_openIf_14 x1 N σ) else (u_X9_openIf_10 x1 N σ)))
def p_X9_openIf (x1 : Int32) (N : Nat) (σ : zS) : Prop := (5 < (σ.1 468 38) → (((u_X9_openIf_1 x1 N σ).1 468 25) ≤ 0 → (p_X9_push 100 0 0 (u_X9_openIf_1 x1 N σ) ∧ p_X9_scan N (u_X9_openIf_3 x1 N σ)))) ∧ (¬ 5 < (σ.1 468 38) → (p_X9_isTooMany x1 σ ∧ (((f_X9_isTooMany x1 σ) = 0 → ((σ.1 468 25) ≤ 0 → (p_X9_push 100 0 0 σ ∧ p_X9_scan N (u_X9_openIf_7 x1 N σ)))) ∧ (¬ (f_X9_isTooMany x1 σ) = 0 → (((u_X9_openIf_10 x1 N σ).1 468 25) ≤ 0 → (p_X9_push 100 0 0 (u_X9_openIf_10 x1 N σ) ∧ p_X9_scan N (u_X9_openIf_12 x1 N σ)))))))
set_option maxRecDepth 100000 in
set_option maxHeartbeats 1000000 in
theorem c_X9_openIf {nx : Nat} (x1 : Int32) (N : Nat) (σ : zS) (hp : p_X9_openIf x1 N σ) : zCl 4 zall nx zall nx 191 [.inr (9, 57, 468), .inl x1] σ (fun v σ1 => v = none ∧ σ1 = s_X9_openIf x1 N σ) := by
  refine zmeth (cd := kX9_openIf) [] 1000 (Nat.le_of_ble_eq_true rfl) rfl okX9_openIf (Nat.le_refl _) (Nat.le_of_ble_eq_true rfl) ?_
  refine And.intro (fun (h1 : 5 < (σ.1 468 38)) => ?_) (fun (h1 : ¬ 5 < (σ.1 468 38)) => ?_)
  · refine zCl.use (c_X9_fail 5 σ) (Nat.le_of_ble_eq_true rfl) ?_
    rintro _ σz ⟨rfl, hz⟩
    subst σz
    refine And.intro (fun (h2 : ((u_X9_openIf_1 x1 N σ).1 468 25) ≤ 0) => ?_) (fun (h2 : ¬ ((u_X9_openIf_1 x1 N σ).1 468 25) ≤ 0) => ?_)
    · refine zCl.use (c_X9_push 100 0 0 (u_X9_openIf_1 x1 N σ) ((hp.1 h1) h2).1) (Nat.le_of_ble_eq_true rfl) ?_
      rintro _ σz ⟨rfl, hz⟩
      subst σz
      refine zCl.use (c_X9_scan N (u_X9_openIf_3 x1 N σ) ((hp.1 h1) h2).2) (Nat.le_of_ble_eq_true rfl) ?_
      rintro _ σz ⟨rfl, hz⟩
      subst σz
      exact And.intro rfl (And.intro rfl ⟨rfl, by rw [s_X9_openIf, if_pos h1, if_pos h2] <;> rfl⟩)
    · exact And.intro rfl (And.intro rfl ⟨rfl, by rw [s_X9_openIf, if_pos h1, if_neg h2] <;> rfl⟩)
  · refine zCl.use (c_X9_isTooMany x1 σ (hp.2 h1).1) (Nat.le_of_ble_eq_true rfl) ?_
    rintro _ σz ⟨rfl, hz⟩
    subst σz
    refine And.intro (fun (h3 : (f_X9_isTooMany x1 σ) = 0) => ?_) (fun (h3 : ¬ (f_X9_isTooMany x1 σ) = 0) => ?_)
    · refine And.intro (fun (h4 : (σ.1 468 25) ≤ 0) => ?_) (fun (h4 : ¬ (σ.1 468 25) ≤ 0) => ?_)
      · refine zCl.use (c_X9_push 100 0 0 σ (((hp.2 h1).2.1 h3) h4).1) (Nat.le_of_ble_eq_true rfl) ?_
        rintro _ σz ⟨rfl, hz⟩
        subst σz
        refine zCl.use (c_X9_scan N (u_X9_openIf_7 x1 N σ) (((hp.2 h1).2.1 h3) h4).2) (Nat.le_of_ble_eq_true rfl) ?_
        rintro _ σz ⟨rfl, hz⟩
        subst σz
        exact And.intro rfl (And.intro rfl ⟨rfl, by rw [s_X9_openIf, if_neg h1, if_pos h3, if_pos h4] <;> rfl⟩)
      · exact And.intro rfl (And.intro rfl ⟨rfl, by rw [s_X9_openIf, if_neg h1, if_pos h3, if_neg h4] <;> rfl⟩)
    · refine zCl.use (c_X9_fail 5 σ) (Nat.le_of_ble_eq_true rfl) ?_
      rintro _ σz ⟨rfl, hz⟩
      subst σz
      refine And.intro (fun (h5 : ((u_X9_openIf_10 x1 N σ).1 468 25) ≤ 0) => ?_) (fun (h5 : ¬ ((u_X9_openIf_10 x1 N σ).1 468 25) ≤ 0) => ?_)
      · refine zCl.use (c_X9_push 100 0 0 (u_X9_openIf_10 x1 N σ) (((hp.2 h1).2.2 h3) h5).1) (Nat.le_of_ble_eq_true rfl) ?_
        rintro _ σz ⟨rfl, hz⟩
        subst σz
        refine zCl.use (c_X9_scan N (u_X9_openIf_12 x1 N σ) (((hp.2 h1).2.2 h3) h5).2) (Nat.le_of_ble_eq_true rfl) ?_
        rintro _ σz ⟨rfl, hz⟩
        subst σz
        exact And.intro rfl (And.intro rfl ⟨rfl, by rw [s_X9_openIf, if_neg h1, if_neg h3, if_pos h5] <;> rfl⟩)
      · exact And.intro rfl (And.intro rfl ⟨rfl, by rw [s_X9_openIf, if_neg h1, if_neg h3, if_neg h5] <;> rfl⟩)
def u_X9_close_1 (x1 : Int32) (N : Nat) (σ : zS) : zS := zuI σ 468 37 ((σ.1 468 37) - 1)
def u_X9_close_2 (x1 : Int32) (N : Nat) (σ : zS) : zS := zuI (u_X9_close_1 x1 N σ) 468 38 (((u_X9_close_1 x1 N σ).1 468 38) - 1)
def u_X9_close_3 (x1 : Int32) (N : Nat) (σ : zS) : zS := s_X9_scan N (u_X9_close_2 x1 N σ)
def u_X9_close_4 (x1 : Int32) (N : Nat) (σ : zS) : zS := zuI (u_X9_close_3 x1 N σ) 468 39 2
def u_X9_close_5 (x1 : Int32) (N : Nat) (σ : zS) : zS := s_X9_closeMinus x1 N (u_X9_close_4 x1 N σ)
def s_X9_close (x1 : Int32) (N : Nat) (σ : zS) : zS := (u_X9_close_5 x1 N σ)
def p_X9_close (x1 : Int32) (N : Nat) (σ : zS) : Prop := p_X9_scan N (u_X9_close_2 x1 N σ) ∧ p_X9_closeMinus x1 N (u_X9_close_4 x1 N σ)
set_option maxRecDepth 100000 in
set_option maxHeartbeats 1000000 in
theorem c_X9_close {nx : Nat} (x1 : Int32) (N : Nat) (σ : zS) (hp : p_X9_close x1 N σ) : zCl 4 zall nx zall nx 196 [.inr (9, 57, 468), .inl x1] σ (fun v σ1 => v = none ∧ σ1 = s_X9_close x1 N σ) := by
  refine zmeth (cd := kX9_close) [] 1000 (Nat.le_of_ble_eq_true rfl) rfl okX9_close (Nat.le_refl _) (Nat.le_of_ble_eq_true rfl) ?_
  refine zCl.use (c_X9_scan N (u_X9_close_2 x1 N σ) hp.1) (Nat.le_of_ble_eq_true rfl) ?_
  rintro _ σz ⟨rfl, hz⟩
  subst σz
  refine zCl.use (c_X9_closeMinus x1 N (u_X9_close_4 x1 N σ) hp.2) (Nat.le_of_ble_eq_true rfl) ?_
  rintro _ σz ⟨rfl, hz⟩
  subst σz
  exact And.intro rfl (And.intro rfl ⟨rfl, by rw [s_X9_close] <;> rfl⟩)
