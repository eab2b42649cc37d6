/-! printed by wip/whole/dec2.py -/
def u_X3_readFunction_1 (N : Nat) (σ : zS) : zS := s_X6_next N σ
def u_X3_readFunction_2 (N : Nat) (σ : zS) : zS := (r_X3_readNewName N (u_X3_readFunction_1 N σ)).2
def u_X3_readFunction_3 (N : Nat) (σ : zS) : zS := (r_X3_readParameters N (u_X3_readFunction_2 N σ)).2
def u_X3_readFunction_4 (N : Nat) (σ : zS) : zS := (r_X3_readSign 61 N (u_X3_readFunction_3 N σ)).2
def u_X3_readFunction_5 (N : Nat) (σ : zS) : zS := (r_X3_rd 0 N (u_X3_readFunction_4 N σ)).2
def u_X3_readFunction_6 (N : Nat) (σ : zS) : zS := (r_X2_emit ((u_X3_readFunction_5 N σ).2 2 1 - 1) 13 0 (u_X3_readFunction_5 N σ)).2
def u_X3_readFunction_7 (N : Nat) (σ : zS) : zS := (r_X3_readSign 59 N (u_X3_readFunction_6 N σ)).2
def u_X3_readFunction_8 (N : Nat) (σ : zS) : zS := (r_X3_refuse 5 (σ.1 3 3) σ).2
def r_X3_readFunction (N : Nat) (σ : zS) : Int32 × zS := if (σ.1 (σ.2 2 1 - 1) 6) < 6 then (if ((r_X3_readNewName N (u_X3_readFunction_1 N σ)).1) = 0 then (0, (u_X3_readFunction_2 N σ)) else (if ((r_X3_readParameters N (u_X3_readFunction_2 N σ)).1) = 0 then (0, (u_X3_readFunction_3 N σ)) else (if ((r_X3_readSign 61 N (u_X3_readFunction_3 N σ)).1) = 0 then (0, (u_X3_readFunction_4 N σ)) else (if ((r_X3_rd 0 N (u_X3_readFunction_4 N σ)).1) = 0 then (0, (u_X3_readFunction_5 N σ)) else ((r_X3_readSign 59 N (u_X3_readFunction_6 N σ)).1, (u_X3_readFunction_7 N σ)))))) else ((r_X3_refuse 5 (σ.1 3 3) σ).1, (u_X3_readFunction_8 N σ))
def p_X3_readFunction (N : Nat) (σ : zS) : Prop := (σ.2 2 1 ≠ 0 ∧ zlay (σ.2 2 1 - 1) = (2, 16)) ∧ ((σ.1 (σ.2 2 1 - 1) 6) < 6 → (p_X6_next N σ ∧ (p_X3_readNewName N (u_X3_readFunction_1 N σ) ∧ (¬ ((r_X3_readNewName N (u_X3_readFunction_1 N σ)).1) = 0 → (p_X3_readParameters N (u_X3_readFunction_2 N σ) ∧ (¬ ((r_X3_readParameters N (u_X3_readFunction_2 N σ)).1) = 0 → (p_X3_readSign 61 N (u_X3_readFunction_3 N σ) ∧ (¬ ((r_X3_readSign 61 N (u_X3_readFunction_3 N σ)).1) = 0 → (p_X3_rd 0 N (u_X3_readFunction_4 N σ) ∧ (¬ ((r_X3_rd 0 N (u_X3_readFunction_4 N σ)).1) = 0 → (((u_X3_readFunction_5 N σ).2 2 1 ≠ 0 ∧ zlay ((u_X3_readFunction_5 N σ).2 2 1 - 1) = (2, 16)) ∧ (p_X2_emit ((u_X3_readFunction_5 N σ).2 2 1 - 1) 13 0 (u_X3_readFunction_5 N σ) ∧ p_X3_readSign 59 N (u_X3_readFunction_6 N σ)))))))))))))
set_option maxRecDepth 100000 in
set_option maxHeartbeats 1000000 in
theorem c_X3_readFunction {nx : Nat} (N : Nat) (σ : zS) (hp : p_X3_readFunction N σ) : zCl 101 zall nx zall nx 36 [.inr (3, 12, 2)] σ (fun v σ1 => v = some (.inl ((r_X3_readFunction N σ).1)) ∧ σ1 = (r_X3_readFunction N σ).2) := by
  refine zmeth (cd := kX3_readFunction) [] 1000 (Nat.le_of_ble_eq_true rfl) rfl okX3_readFunction (Nat.le_refl _) (Nat.le_of_ble_eq_true rfl) ?_
  refine And.intro hp.1.1 (fun q901 (e1 : σ.2 2 1 = q901 + 1) => ?_)
  have g1 : q901 = (σ.2 2 1 - 1) := by omega
  subst g1
  rw [hp.1.2]
  refine And.intro (fun (h2 : (σ.1 (σ.2 2 1 - 1) 6) < 6) => ?_) (fun (h2 : ¬ (σ.1 (σ.2 2 1 - 1) 6) < 6) => ?_)
  · refine zCl.use (c_X6_next N σ (hp.2 h2).1) (Nat.le_of_ble_eq_true rfl) ?_
    rintro _ σz ⟨rfl, hz⟩
    subst σz
    refine zCl.use (c_X3_readNewName N (u_X3_readFunction_1 N σ) (hp.2 h2).2.1) (Nat.le_of_ble_eq_true rfl) ?_
    rintro _ σz ⟨rfl, hz⟩
    subst σz
    refine And.intro (fun (h3 : ((r_X3_readNewName N (u_X3_readFunction_1 N σ)).1) = 0) => ?_) (fun (h3 : ¬ ((r_X3_readNewName N (u_X3_readFunction_1 N σ)).1) = 0) => ?_)
    · exact And.intro rfl (And.intro rfl (And.intro (Or.inl rfl) ⟨by rw [r_X3_readFunction, if_pos h2, if_pos h3] <;> rfl, by rw [r_X3_readFunction, if_pos h2, if_pos h3] <;> rfl⟩))
    · refine zCl.use (c_X3_readParameters N (u_X3_readFunction_2 N σ) ((hp.2 h2).2.2 h3).1) (Nat.le_of_ble_eq_true rfl) ?_
      rintro _ σz ⟨rfl, hz⟩
      subst σz
      refine And.intro (fun (h4 : ((r_X3_readParameters N (u_X3_readFunction_2 N σ)).1) = 0) => ?_) (fun (h4 : ¬ ((r_X3_readParameters N (u_X3_readFunction_2 N σ)).1) = 0) => ?_)
      · exact And.intro rfl (And.intro rfl (And.intro (Or.inl rfl) ⟨by rw [r_X3_readFunction, if_pos h2, if_neg h3, if_pos h4] <;> rfl, by rw [r_X3_readFunction, if_pos h2, if_neg h3, if_pos h4] <;> rfl⟩))
      · refine zCl.use (c_X3_readSign 61 N (u_X3_readFunction_3 N σ) (((hp.2 h2).2.2 h3).2 h4).1) (Nat.le_of_ble_eq_true rfl) ?_
        rintro _ σz ⟨rfl, hz⟩
        subst σz
        refine And.intro (fun (h5 : ((r_X3_readSign 61 N (u_X3_readFunction_3 N σ)).1) = 0) => ?_) (fun (h5 : ¬ ((r_X3_readSign 61 N (u_X3_readFunction_3 N σ)).1) = 0) => ?_)
        · exact And.intro rfl (And.intro rfl (And.intro (Or.inl rfl) ⟨by rw [r_X3_readFunction, if_pos h2, if_neg h3, if_neg h4, if_pos h5] <;> rfl, by rw [r_X3_readFunction, if_pos h2, if_neg h3, if_neg h4, if_pos h5] <;> rfl⟩))
        · refine zCl.use (c_X3_rd 0 N (u_X3_readFunction_4 N σ) ((((hp.2 h2).2.2 h3).2 h4).2 h5).1) (Nat.le_of_ble_eq_true rfl) ?_
          rintro _ σz ⟨rfl, hz⟩
          subst σz
          refine And.intro (fun (h6 : ¬ ((r_X3_rd 0 N (u_X3_readFunction_4 N σ)).1) = 0) => ?_) (fun (h6 : ((r_X3_rd 0 N (u_X3_readFunction_4 N σ)).1) = 0) => ?_)
          · refine And.intro (((((hp.2 h2).2.2 h3).2 h4).2 h5).2 h6).1.1 (fun q907 (e7 : (u_X3_readFunction_5 N σ).2 2 1 = q907 + 1) => ?_)
            have g7 : q907 = ((u_X3_readFunction_5 N σ).2 2 1 - 1) := by omega
            subst g7
            rw [(((((hp.2 h2).2.2 h3).2 h4).2 h5).2 h6).1.2]
            refine zCl.use (c_X2_emit ((u_X3_readFunction_5 N σ).2 2 1 - 1) 13 0 (u_X3_readFunction_5 N σ) (((((hp.2 h2).2.2 h3).2 h4).2 h5).2 h6).2.1) (Nat.le_of_ble_eq_true rfl) ?_
            rintro _ σz ⟨rfl, hz⟩
            subst σz
            refine zCl.use (c_X3_readSign 59 N (u_X3_readFunction_6 N σ) (((((hp.2 h2).2.2 h3).2 h4).2 h5).2 h6).2.2) (Nat.le_of_ble_eq_true rfl) ?_
            rintro _ σz ⟨rfl, hz⟩
            subst σz
            exact And.intro rfl (And.intro rfl (And.intro b_X3_readSign ⟨by rw [r_X3_readFunction, if_pos h2, if_neg h3, if_neg h4, if_neg h5, if_neg h6] <;> rfl, by rw [r_X3_readFunction, if_pos h2, if_neg h3, if_neg h4, if_neg h5, if_neg h6] <;> rfl⟩))
          · exact And.intro rfl (And.intro rfl (And.intro (Or.inl rfl) ⟨by rw [r_X3_readFunction, if_pos h2, if_neg h3, if_neg h4, if_neg h5, if_pos h6] <;> rfl, by rw [r_X3_readFunction, if_pos h2, if_neg h3, if_neg h4, if_neg h5, if_pos h6] <;> rfl⟩))
  · refine zCl.use (c_X3_refuse 5 (σ.1 3 3) σ) (Nat.le_of_ble_eq_true rfl) ?_
    rintro _ σz ⟨rfl, hz⟩
    subst σz
    exact And.intro rfl (And.intro rfl (And.intro b_X3_refuse ⟨by rw [r_X3_readFunction, if_neg h2] <;> rfl, by rw [r_X3_readFunction, if_neg h2] <;> rfl⟩))
theorem b_X3_readFunction {N : Nat} {σ : zS} : (r_X3_readFunction N σ).1 = 0 ∨ (r_X3_readFunction N σ).1 = 1 := by
  unfold r_X3_readFunction
  by_cases h0 : (σ.1 (σ.2 2 1 - 1) 6) < 6
  · rw [if_pos h0]
    by_cases h1 : ((r_X3_readNewName N (u_X3_readFunction_1 N σ)).1) = 0
    · rw [if_pos h1]
      exact Or.inl rfl
    rw [if_neg h1]
    by_cases h2 : ((r_X3_readParameters N (u_X3_readFunction_2 N σ)).1) = 0
    · rw [if_pos h2]
      exact Or.inl rfl
    rw [if_neg h2]
    by_cases h3 : ((r_X3_readSign 61 N (u_X3_readFunction_3 N σ)).1) = 0
    · rw [if_pos h3]
      exact Or.inl rfl
    rw [if_neg h3]
    by_cases h4 : ((r_X3_rd 0 N (u_X3_readFunction_4 N σ)).1) = 0
    · rw [if_pos h4]
      exact Or.inl rfl
    rw [if_neg h4]
    exact b_X3_readSign
  · rw [if_neg h0]
    exact b_X3_refuse
def u_X3_readStore_h0_1 (q1 : Nat) (n2 : Nat) (q2 : Nat) (N : Nat) (v3 : Int32) (v4 : Int32) (v5 : Int32) (σ : zS) : zS := (r_X3_readWindows N σ).2
def u_X3_readStore_h0_2 (q1 : Nat) (n2 : Nat) (q2 : Nat) (N : Nat) (v3 : Int32) (v4 : Int32) (v5 : Int32) (σ : zS) : zS := (r_X3_readHandler N σ).2
def u_X3_readStore_h0_3 (q1 : Nat) (n2 : Nat) (q2 : Nat) (N : Nat) (v3 : Int32) (v4 : Int32) (v5 : Int32) (σ : zS) : zS := (r_X3_readSlice N σ).2
def u_X3_readStore_h0_4 (q1 : Nat) (n2 : Nat) (q2 : Nat) (N : Nat) (v3 : Int32) (v4 : Int32) (v5 : Int32) (σ : zS) : zS := (r_X3_readPrice N σ).2
def u_X3_readStore_h0_5 (q1 : Nat) (n2 : Nat) (q2 : Nat) (N : Nat) (v3 : Int32) (v4 : Int32) (v5 : Int32) (σ : zS) : zS := (r_X3_readFunction N σ).2
def u_X3_readStore_h0_6 (q1 : Nat) (n2 : Nat) (q2 : Nat) (N : Nat) (v3 : Int32) (v4 : Int32) (v5 : Int32) (σ : zS) : zS := (r_X3_readTask N σ).2
def u_X3_readStore_h0_7 (q1 : Nat) (n2 : Nat) (q2 : Nat) (N : Nat) (v3 : Int32) (v4 : Int32) (v5 : Int32) (σ : zS) : zS := (r_X3_refuseToken σ).2
def l_X3_readStore (q1 : Nat) (n2 : Nat) (q2 : Nat) (N : Nat) : Nat → Int32 → Int32 → Int32 → zS → Int32 × zS
  | 0, _, _, _, σ => (0, σ)
  | n + 1, v3, v4, v5, σ => if 1000 < v5 then (v4, σ) else (if v4 = 0 then (v4, σ) else (if (σ.1 3 2) = 300 then (v4, σ) else (if (σ.1 3 2) = 310 then (l_X3_readStore q1 n2 q2 N n v3 ((r_X3_readWindows N σ).1) (v5 + 1) (u_X3_readStore_h0_1 q1 n2 q2 N v3 v4 v5 σ)) else (if (σ.1 3 2) = 311 then (l_X3_readStore q1 n2 q2 N n v3 ((r_X3_readHandler N σ).1) (v5 + 1) (u_X3_readStore_h0_2 q1 n2 q2 N v3 v4 v5 σ)) else (if (σ.1 3 2) = 312 then (l_X3_readStore q1 n2 q2 N n v3 ((r_X3_readSlice N σ).1) (v5 + 1) (u_X3_readStore_h0_3 q1 n2 q2 N v3 v4 v5 σ)) else (if (σ.1 3 2) = 313 then (l_X3_readStore q1 n2 q2 N n v3 ((r_X3_readPrice N σ).1) (v5 + 1) (u_X3_readStore_h0_4 q1 n2 q2 N v3 v4 v5 σ)) else (if (σ.1 3 2) = 314 then (l_X3_readStore q1 n2 q2 N n v3 ((r_X3_readFunction N σ).1) (v5 + 1) (u_X3_readStore_h0_5 q1 n2 q2 N v3 v4 v5 σ)) else (if (σ.1 3 2) = 315 then (l_X3_readStore q1 n2 q2 N n v3 ((r_X3_readTask N σ).1) (v5 + 1) (u_X3_readStore_h0_6 q1 n2 q2 N v3 v4 v5 σ)) else (l_X3_readStore q1 n2 q2 N n v3 ((r_X3_refuseToken σ).1) (v5 + 1) (u_X3_readStore_h0_7 q1 n2 q2 N v3 v4 v5 σ))))))))))
def q_X3_readStore (q1 : Nat) (n2 : Nat) (q2 : Nat) (N : Nat) : Nat → Int32 → Int32 → Int32 → zS → Prop
  | 0, _, _, _, _ => False
  | n + 1, v3, v4, v5, σ => (1000 < v5 → ((v4 = 0 ∨ v4 = 1))) ∧ (¬ 1000 < v5 → ((v4 = 0 → ((v4 = 0 ∨ v4 = 1))) ∧ (¬ v4 = 0 → (((σ.1 3 2) = 300 → ((v4 = 0 ∨ v4 = 1))) ∧ (¬ (σ.1 3 2) = 300 → (((σ.1 3 2) = 310 → (p_X3_readWindows N σ ∧ q_X3_readStore q1 n2 q2 N n v3 ((r_X3_readWindows N σ).1) (v5 + 1) (u_X3_readStore_h0_1 q1 n2 q2 N v3 v4 v5 σ))) ∧ (¬ (σ.1 3 2) = 310 → (((σ.1 3 2) = 311 → (p_X3_readHandler N σ ∧ q_X3_readStore q1 n2 q2 N n v3 ((r_X3_readHandler N σ).1) (v5 + 1) (u_X3_readStore_h0_2 q1 n2 q2 N v3 v4 v5 σ))) ∧ (¬ (σ.1 3 2) = 311 → (((σ.1 3 2) = 312 → (p_X3_readSlice N σ ∧ q_X3_readStore q1 n2 q2 N n v3 ((r_X3_readSlice N σ).1) (v5 + 1) (u_X3_readStore_h0_3 q1 n2 q2 N v3 v4 v5 σ))) ∧ (¬ (σ.1 3 2) = 312 → (((σ.1 3 2) = 313 → (p_X3_readPrice N σ ∧ q_X3_readStore q1 n2 q2 N n v3 ((r_X3_readPrice N σ).1) (v5 + 1) (u_X3_readStore_h0_4 q1 n2 q2 N v3 v4 v5 σ))) ∧ (¬ (σ.1 3 2) = 313 → (((σ.1 3 2) = 314 → (p_X3_readFunction N σ ∧ q_X3_readStore q1 n2 q2 N n v3 ((r_X3_readFunction N σ).1) (v5 + 1) (u_X3_readStore_h0_5 q1 n2 q2 N v3 v4 v5 σ))) ∧ (¬ (σ.1 3 2) = 314 → (((σ.1 3 2) = 315 → (p_X3_readTask N σ ∧ q_X3_readStore q1 n2 q2 N n v3 ((r_X3_readTask N σ).1) (v5 + 1) (u_X3_readStore_h0_6 q1 n2 q2 N v3 v4 v5 σ))) ∧ (¬ (σ.1 3 2) = 315 → q_X3_readStore q1 n2 q2 N n v3 ((r_X3_refuseToken σ).1) (v5 + 1) (u_X3_readStore_h0_7 q1 n2 q2 N v3 v4 v5 σ))))))))))))))))))
set_option maxRecDepth 100000 in
set_option maxHeartbeats 1000000 in
theorem w_X3_readStore {nx : Nat} (q1 : Nat) (n2 : Nat) (q2 : Nat) (N : Nat) : ∀ n : Nat, (∀ (v3 : Int32) (v4 : Int32) (v5 : Int32) (σ : zS), q_X3_readStore q1 n2 q2 N n v3 v4 v5 σ → zWp 102 zall nx 26 (fun v σ1 => v = some (.inl ((l_X3_readStore q1 n2 q2 N n v3 v4 v5 σ).1)) ∧ σ1 = (l_X3_readStore q1 n2 q2 N n v3 v4 v5 σ).2) zall nx 47 [some (.inr (3, 12, 2)), some (.inr (2, 16, q1)), some (.inr (20, n2, q2)), some (.inl v3), some (.inl v4), some (.inl v5)] [] σ) := by
  intro n
  induction n with
  | zero => exact fun _ _ _ _ h => h.elim
  | succ n ih =>
    intro v3 v4 v5 σ hp
    rw [q_X3_readStore] at hp
    refine zvc_sound (cd := kX3_readStore) (cs := [47]) rfl okX3_readStore 1000 _ _ 47 (zseek kX3_readStore 47) _ _ _ zseek_sub ?_
    refine And.intro (fun (h1 : 1000 < v5) => ?_) (fun (h1 : ¬ 1000 < v5) => ?_)
    · exact And.intro rfl (And.intro rfl (And.intro (hp.1 h1) ⟨by rw [l_X3_readStore, if_pos h1] <;> rfl, by rw [l_X3_readStore, if_pos h1] <;> rfl⟩))
    · refine And.intro (fun (h2 : v4 = 0) => ?_) (fun (h2 : ¬ v4 = 0) => ?_)
      · exact And.intro rfl (And.intro rfl (And.intro ((hp.2 h1).1 h2) ⟨by rw [l_X3_readStore, if_neg h1, if_pos h2] <;> rfl, by rw [l_X3_readStore, if_neg h1, if_pos h2] <;> rfl⟩))
      · refine And.intro (fun (h3 : (σ.1 3 2) = 300) => ?_) (fun (h3 : ¬ (σ.1 3 2) = 300) => ?_)
        · exact And.intro rfl (And.intro rfl (And.intro (((hp.2 h1).2 h2).1 h3) ⟨by rw [l_X3_readStore, if_neg h1, if_neg h2, if_pos h3] <;> rfl, by rw [l_X3_readStore, if_neg h1, if_neg h2, if_pos h3] <;> rfl⟩))
        · refine And.intro (fun (h4 : (σ.1 3 2) = 310) => ?_) (fun (h4 : ¬ (σ.1 3 2) = 310) => ?_)
          · refine zCl.use (c_X3_readWindows N σ ((((hp.2 h1).2 h2).2 h3).1 h4).1) (Nat.le_of_ble_eq_true rfl) ?_
            rintro _ σz ⟨rfl, hz⟩
            subst σz
            refine zWp.use (ih v3 ((r_X3_readWindows N σ).1) (v5 + 1) (u_X3_readStore_h0_1 q1 n2 q2 N v3 v4 v5 σ) ((((hp.2 h1).2 h2).2 h3).1 h4).2) (And.intro rfl (And.intro rfl (And.intro rfl (And.intro rfl (And.intro rfl (And.intro rfl trivial)))))) (fun vy σy hy => ?_)
            rw [l_X3_readStore, if_neg h1, if_neg h2, if_neg h3, if_pos h4]; exact hy
          · refine And.intro (fun (h5 : (σ.1 3 2) = 311) => ?_) (fun (h5 : ¬ (σ.1 3 2) = 311) => ?_)
            · refine zCl.use (c_X3_readHandler N σ (((((hp.2 h1).2 h2).2 h3).2 h4).1 h5).1) (Nat.le_of_ble_eq_true rfl) ?_
              rintro _ σz ⟨rfl, hz⟩
              subst σz
              refine zWp.use (ih v3 ((r_X3_readHandler N σ).1) (v5 + 1) (u_X3_readStore_h0_2 q1 n2 q2 N v3 v4 v5 σ) (((((hp.2 h1).2 h2).2 h3).2 h4).1 h5).2) (And.intro rfl (And.intro rfl (And.intro rfl (And.intro rfl (And.intro rfl (And.intro rfl trivial)))))) (fun vy σy hy => ?_)
              rw [l_X3_readStore, if_neg h1, if_neg h2, if_neg h3, if_neg h4, if_pos h5]; exact hy
            · refine And.intro (fun (h6 : (σ.1 3 2) = 312) => ?_) (fun (h6 : ¬ (σ.1 3 2) = 312) => ?_)
              · refine zCl.use (c_X3_readSlice N σ ((((((hp.2 h1).2 h2).2 h3).2 h4).2 h5).1 h6).1) (Nat.le_of_ble_eq_true rfl) ?_
                rintro _ σz ⟨rfl, hz⟩
                subst σz
                refine zWp.use (ih v3 ((r_X3_readSlice N σ).1) (v5 + 1) (u_X3_readStore_h0_3 q1 n2 q2 N v3 v4 v5 σ) ((((((hp.2 h1).2 h2).2 h3).2 h4).2 h5).1 h6).2) (And.intro rfl (And.intro rfl (And.intro rfl (And.intro rfl (And.intro rfl (And.intro rfl trivial)))))) (fun vy σy hy => ?_)
                rw [l_X3_readStore, if_neg h1, if_neg h2, if_neg h3, if_neg h4, if_neg h5, if_pos h6]; exact hy
              · refine And.intro (fun (h7 : (σ.1 3 2) = 313) => ?_) (fun (h7 : ¬ (σ.1 3 2) = 313) => ?_)
                · refine zCl.use (c_X3_readPrice N σ (((((((hp.2 h1).2 h2).2 h3).2 h4).2 h5).2 h6).1 h7).1) (Nat.le_of_ble_eq_true rfl) ?_
                  rintro _ σz ⟨rfl, hz⟩
                  subst σz
                  refine zWp.use (ih v3 ((r_X3_readPrice N σ).1) (v5 + 1) (u_X3_readStore_h0_4 q1 n2 q2 N v3 v4 v5 σ) (((((((hp.2 h1).2 h2).2 h3).2 h4).2 h5).2 h6).1 h7).2) (And.intro rfl (And.intro rfl (And.intro rfl (And.intro rfl (And.intro rfl (And.intro rfl trivial)))))) (fun vy σy hy => ?_)
                  rw [l_X3_readStore, if_neg h1, if_neg h2, if_neg h3, if_neg h4, if_neg h5, if_neg h6, if_pos h7]; exact hy
                · refine And.intro (fun (h8 : (σ.1 3 2) = 314) => ?_) (fun (h8 : ¬ (σ.1 3 2) = 314) => ?_)
                  · refine zCl.use (c_X3_readFunction N σ ((((((((hp.2 h1).2 h2).2 h3).2 h4).2 h5).2 h6).2 h7).1 h8).1) (Nat.le_of_ble_eq_true rfl) ?_
                    rintro _ σz ⟨rfl, hz⟩
                    subst σz
                    refine zWp.use (ih v3 ((r_X3_readFunction N σ).1) (v5 + 1) (u_X3_readStore_h0_5 q1 n2 q2 N v3 v4 v5 σ) ((((((((hp.2 h1).2 h2).2 h3).2 h4).2 h5).2 h6).2 h7).1 h8).2) (And.intro rfl (And.intro rfl (And.intro rfl (And.intro rfl (And.intro rfl (And.intro rfl trivial)))))) (fun vy σy hy => ?_)
                    rw [l_X3_readStore, if_neg h1, if_neg h2, if_neg h3, if_neg h4, if_neg h5, if_neg h6, if_neg h7, if_pos h8]; exact hy
                  · refine And.intro (fun (h9 : (σ.1 3 2) = 315) => ?_) (fun (h9 : ¬ (σ.1 3 2) = 315) => ?_)
                    · refine zCl.use (c_X3_readTask N σ (((((((((hp.2 h1).2 h2).2 h3).2 h4).2 h5).2 h6).2 h7).2 h8).1 h9).1) (Nat.le_of_ble_eq_true rfl) ?_
                      rintro _ σz ⟨rfl, hz⟩
                      subst σz
                      refine zWp.use (ih v3 ((r_X3_readTask N σ).1) (v5 + 1) (u_X3_readStore_h0_6 q1 n2 q2 N v3 v4 v5 σ) (((((((((hp.2 h1).2 h2).2 h3).2 h4).2 h5).2 h6).2 h7).2 h8).1 h9).2) (And.intro rfl (And.intro rfl (And.intro rfl (And.intro rfl (And.intro rfl (And.intro rfl trivial)))))) (fun vy σy hy => ?_)
                      rw [l_X3_readStore, if_neg h1, if_neg h2, if_neg h3, if_neg h4, if_neg h5, if_neg h6, if_neg h7, if_neg h8, if_pos h9]; exact hy
                    · refine zCl.use (c_X3_refuseToken σ) (Nat.le_of_ble_eq_true rfl) ?_
                      rintro _ σz ⟨rfl, hz⟩
                      subst σz
                      refine zWp.use (ih v3 ((r_X3_refuseToken σ).1) (v5 + 1) (u_X3_readStore_h0_7 q1 n2 q2 N v3 v4 v5 σ) (((((((((hp.2 h1).2 h2).2 h3).2 h4).2 h5).2 h6).2 h7).2 h8).2 h9)) (And.intro rfl (And.intro rfl (And.intro rfl (And.intro rfl (And.intro rfl (And.intro rfl trivial)))))) (fun vy σy hy => ?_)
                      rw [l_X3_readStore, if_neg h1, if_neg h2, if_neg h3, if_neg h4, if_neg h5, if_neg h6, if_neg h7, if_neg h8, if_neg h9]; exact hy
def u_X3_readStore_1 (q1 : Nat) (n2 : Nat) (q2 : Nat) (x3 : Int32) (N : Nat) (σ : zS) : zS := zuR σ 2 1 (q1 + 1)
def u_X3_readStore_2 (q1 : Nat) (n2 : Nat) (q2 : Nat) (x3 : Int32) (N : Nat) (σ : zS) : zS := s_X2_clear ((u_X3_readStore_1 q1 n2 q2 x3 N σ).2 2 1 - 1) N (u_X3_readStore_1 q1 n2 q2 x3 N σ)
def u_X3_readStore_3 (q1 : Nat) (n2 : Nat) (q2 : Nat) (x3 : Int32) (N : Nat) (σ : zS) : zS := zuI (u_X3_readStore_2 q1 n2 q2 x3 N σ) 2 2 0
def u_X3_readStore_4 (q1 : Nat) (n2 : Nat) (q2 : Nat) (x3 : Int32) (N : Nat) (σ : zS) : zS := zuI (u_X3_readStore_3 q1 n2 q2 x3 N σ) 2 3 (-1)
def u_X3_readStore_5 (q1 : Nat) (n2 : Nat) (q2 : Nat) (x3 : Int32) (N : Nat) (σ : zS) : zS := zuI (u_X3_readStore_4 q1 n2 q2 x3 N σ) 2 4 0
def u_X3_readStore_6 (q1 : Nat) (n2 : Nat) (q2 : Nat) (x3 : Int32) (N : Nat) (σ : zS) : zS := zuI (u_X3_readStore_5 q1 n2 q2 x3 N σ) 2 6 (-1)
def u_X3_readStore_7 (q1 : Nat) (n2 : Nat) (q2 : Nat) (x3 : Int32) (N : Nat) (σ : zS) : zS := s_X6_open n2 q2 x3 N (u_X3_readStore_6 q1 n2 q2 x3 N σ)
def r_X3_readStore (q1 : Nat) (n2 : Nat) (q2 : Nat) (x3 : Int32) (N : Nat) (σ : zS) : Int32 × zS := l_X3_readStore q1 n2 q2 N N x3 1 0 (u_X3_readStore_7 q1 n2 q2 x3 N σ)
def p_X3_readStore (q1 : Nat) (n2 : Nat) (q2 : Nat) (x3 : Int32) (N : Nat) (σ : zS) : Prop := q1 < 1000003 ∧ (((u_X3_readStore_1 q1 n2 q2 x3 N σ).2 2 1 ≠ 0 ∧ zlay ((u_X3_readStore_1 q1 n2 q2 x3 N σ).2 2 1 - 1) = (2, 16)) ∧ (p_X2_clear ((u_X3_readStore_1 q1 n2 q2 x3 N σ).2 2 1 - 1) N (u_X3_readStore_1 q1 n2 q2 x3 N σ) ∧ (p_X6_open n2 q2 x3 N (u_X3_readStore_6 q1 n2 q2 x3 N σ) ∧ q_X3_readStore q1 n2 q2 N N x3 1 0 (u_X3_readStore_7 q1 n2 q2 x3 N σ))))
set_option maxRecDepth 100000 in
set_option maxHeartbeats 1000000 in
theorem c_X3_readStore {nx : Nat} (q1 : Nat) (n2 : Nat) (q2 : Nat) (x3 : Int32) (N : Nat) (σ : zS) (hp : p_X3_readStore q1 n2 q2 x3 N σ) : zCl 102 zall nx zall nx 26 [.inr (3, 12, 2), .inr (2, 16, q1), .inr (20, n2, q2), .inl x3] σ (fun v σ1 => v = some (.inl ((r_X3_readStore q1 n2 q2 x3 N σ).1)) ∧ σ1 = (r_X3_readStore q1 n2 q2 x3 N σ).2) := by
  refine zmeth (cd := kX3_readStore) [47] 1000 (Nat.le_of_ble_eq_true rfl) rfl okX3_readStore (Nat.le_refl _) (Nat.le_of_ble_eq_true rfl) ?_
  refine And.intro hp.1 ?_
  refine And.intro hp.2.1.1 (fun q901 (e1 : (u_X3_readStore_1 q1 n2 q2 x3 N σ).2 2 1 = q901 + 1) => ?_)
  have g1 : q901 = ((u_X3_readStore_1 q1 n2 q2 x3 N σ).2 2 1 - 1) := by omega
  rw [g1]
  rw [hp.2.1.2]
  refine zCl.use (c_X2_clear ((u_X3_readStore_1 q1 n2 q2 x3 N σ).2 2 1 - 1) N (u_X3_readStore_1 q1 n2 q2 x3 N σ) hp.2.2.1) (Nat.le_of_ble_eq_true rfl) ?_
  rintro _ σz ⟨rfl, hz⟩
  subst σz
  refine zCl.use (c_X6_open n2 q2 x3 N (u_X3_readStore_6 q1 n2 q2 x3 N σ) hp.2.2.2.1) (Nat.le_of_ble_eq_true rfl) ?_
  rintro _ σz ⟨rfl, hz⟩
  subst σz
  refine zWp.use ((w_X3_readStore q1 n2 q2 N N) x3 1 0 (u_X3_readStore_7 q1 n2 q2 x3 N σ) hp.2.2.2.2) (And.intro rfl (And.intro rfl (And.intro rfl (And.intro rfl (And.intro rfl (And.intro rfl trivial)))))) (fun vy σy hy => ?_)
  rw [r_X3_readStore]; exact hy
def u_X8_store_h0_1 (N : Nat) (v1 : Int32) (a2 : Nat) (v3 : Int32) (σ : zS) : zS := zuI σ 358 (v3).toNatClampNeg (vp_nar .boolean 0)
def l_X8_store (N : Nat) : Nat → Int32 → Nat → Int32 → zS → Int32 × zS
  | 0, _, _, _, σ => (0, σ)
  | n + 1, v1, a2, v3, σ => if 2 ≤ v3 then (σ.1 (σ.2 0 5 - 1) 7, σ) else (l_X8_store N n v1 a2 (v3 + 1) (u_X8_store_h0_1 N v1 a2 v3 σ))
def q_X8_store (N : Nat) : Nat → Int32 → Nat → Int32 → zS → Prop
  | 0, _, _, _, _ => False
  | n + 1, v1, a2, v3, σ => (2 ≤ v3 → ((σ.2 0 5 ≠ 0 ∧ zlay (σ.2 0 5 - 1) = (2, 16)))) ∧ (¬ 2 ≤ v3 → (vp_in v3 2 ∧ q_X8_store N n v1 a2 (v3 + 1) (u_X8_store_h0_1 N v1 a2 v3 σ)))
set_option maxRecDepth 100000 in
set_option maxHeartbeats 1000000 in
theorem w_X8_store {nx : Nat} (N : Nat) : ∀ n : Nat, (∀ (v1 : Int32) (a2 : Nat) (v3 : Int32) (σ : zS), q_X8_store N n v1 a2 v3 σ → zWp 103 zall nx 111 (fun v σ1 => v = some (.inl ((l_X8_store N n v1 a2 v3 σ).1)) ∧ σ1 = (l_X8_store N n v1 a2 v3 σ).2) zall nx 84 [some (.inr (8, 16, 0)), some (.inl v1), some (.inr (2, 16, a2)), some (.inl v3)] [] σ) := by
  intro n
  induction n with
  | zero => exact fun _ _ _ _ h => h.elim
  | succ n ih =>
    intro v1 a2 v3 σ hp
    rw [q_X8_store] at hp
    refine zvc_sound (cd := kX8_store) (cs := [84]) rfl okX8_store 1000 _ _ 84 (zseek kX8_store 84) _ _ _ zseek_sub ?_
    refine And.intro (fun (h1 : 2 ≤ v3) => ?_) (fun (h1 : ¬ 2 ≤ v3) => ?_)
    · refine And.intro (hp.1 h1).1 (fun q902 (e2 : σ.2 0 5 = q902 + 1) => ?_)
      have g2 : q902 = (σ.2 0 5 - 1) := by omega
      subst g2
      rw [(hp.1 h1).2]
      exact And.intro rfl (And.intro rfl ⟨by rw [l_X8_store, if_pos h1] <;> rfl, by rw [l_X8_store, if_pos h1] <;> rfl⟩)
    · refine And.intro (hp.2 h1).1 ?_
      refine zWp.use (ih v1 a2 (v3 + 1) (u_X8_store_h0_1 N v1 a2 v3 σ) (hp.2 h1).2) (And.intro rfl (And.intro rfl (And.intro rfl (And.intro rfl trivial)))) (fun vy σy hy => ?_)
      rw [l_X8_store, if_neg h1]; exact hy
def u_X8_store_1 (N : Nat) (σ : zS) : zS := (r_X3_readStore (σ.2 0 6 - 1) 1000 1 (σ.1 0 1) N σ).2
def u_X8_store_2 (N : Nat) (σ : zS) : zS := zuI (u_X8_store_1 N σ) 0 1 0
def u_X8_store_3 (N : Nat) (σ : zS) : zS := zuI (u_X8_store_2 N σ) 0 3 ((u_X8_store_2 N σ).1 2 2)
def u_X8_store_4 (N : Nat) (σ : zS) : zS := zuI (u_X8_store_3 N σ) 0 4 ((u_X8_store_3 N σ).1 2 3)
def u_X8_store_5 (N : Nat) (σ : zS) : zS := zuR (u_X8_store_4 N σ) 0 5 (((u_X8_store_4 N σ).2 0 6 - 1) + 1)
def u_X8_store_6 (N : Nat) (σ : zS) : zS := zuR (u_X8_store_5 N σ) 0 6 (((u_X8_store_4 N σ).2 0 5 - 1) + 1)
def u_X8_store_7 (N : Nat) (σ : zS) : zS := s_X1_startAnew ((u_X8_store_6 N σ).2 0 5 - 1) N (u_X8_store_6 N σ)
def r_X8_store (N : Nat) (σ : zS) : Int32 × zS := if ((r_X3_readStore (σ.2 0 6 - 1) 1000 1 (σ.1 0 1) N σ).1) = 0 then (-1, (u_X8_store_4 N σ)) else (l_X8_store N N ((r_X3_readStore (σ.2 0 6 - 1) 1000 1 (σ.1 0 1) N σ).1) ((u_X8_store_4 N σ).2 0 5 - 1) 0 (u_X8_store_7 N σ))
def p_X8_store (N : Nat) (σ : zS) : Prop := (σ.2 0 6 ≠ 0 ∧ zlay (σ.2 0 6 - 1) = (2, 16)) ∧ (p_X3_readStore (σ.2 0 6 - 1) 1000 1 (σ.1 0 1) N σ ∧ (¬ ((r_X3_readStore (σ.2 0 6 - 1) 1000 1 (σ.1 0 1) N σ).1) = 0 → (((u_X8_store_4 N σ).2 0 5 ≠ 0 ∧ zlay ((u_X8_store_4 N σ).2 0 5 - 1) = (2, 16)) ∧ (((u_X8_store_4 N σ).2 0 6 ≠ 0 ∧ zlay ((u_X8_store_4 N σ).2 0 6 - 1) = (2, 16)) ∧ (((u_X8_store_4 N σ).2 0 6 - 1) < 1000003 ∧ (((u_X8_store_4 N σ).2 0 5 - 1) < 1000003 ∧ (((u_X8_store_6 N σ).2 0 5 ≠ 0 ∧ zlay ((u_X8_store_6 N σ).2 0 5 - 1) = (2, 16)) ∧ (p_X1_startAnew ((u_X8_store_6 N σ).2 0 5 - 1) N (u_X8_store_6 N σ) ∧ q_X8_store N N ((r_X3_readStore (σ.2 0 6 - 1) 1000 1 (σ.1 0 1) N σ).1) ((u_X8_store_4 N σ).2 0 5 - 1) 0 (u_X8_store_7 N σ)))))))))
set_option maxRecDepth 100000 in
set_option maxHeartbeats 1000000 in
theorem c_X8_store {nx : Nat} (N : Nat) (σ : zS) (hp : p_X8_store N σ) : zCl 103 zall nx zall nx 111 [.inr (8, 16, 0)] σ (fun v σ1 => v = some (.inl ((r_X8_store N σ).1)) ∧ σ1 = (r_X8_store N σ).2) := by
  refine zmeth (cd := kX8_store) [84] 1000 (Nat.le_of_ble_eq_true rfl) rfl okX8_store (Nat.le_refl _) (Nat.le_of_ble_eq_true rfl) ?_
  refine And.intro hp.1.1 (fun q901 (e1 : σ.2 0 6 = q901 + 1) => ?_)
  have g1 : q901 = (σ.2 0 6 - 1) := by omega
  subst g1
  rw [hp.1.2]
  refine zCl.use (c_X3_readStore (σ.2 0 6 - 1) 1000 1 (σ.1 0 1) N σ hp.2.1) (Nat.le_of_ble_eq_true rfl) ?_
  rintro _ σz ⟨rfl, hz⟩
  subst σz
  refine And.intro (fun (h2 : ¬ ((r_X3_readStore (σ.2 0 6 - 1) 1000 1 (σ.1 0 1) N σ).1) = 0) => ?_) (fun (h2 : ((r_X3_readStore (σ.2 0 6 - 1) 1000 1 (σ.1 0 1) N σ).1) = 0) => ?_)
  · refine And.intro (hp.2.2 h2).1.1 (fun q903 (e3 : (u_X8_store_4 N σ).2 0 5 = q903 + 1) => ?_)
    have g3 : q903 = ((u_X8_store_4 N σ).2 0 5 - 1) := by omega
    subst g3
    rw [(hp.2.2 h2).1.2]
    refine And.intro (hp.2.2 h2).2.1.1 (fun q904 (e4 : (u_X8_store_4 N σ).2 0 6 = q904 + 1) => ?_)
    have g4 : q904 = ((u_X8_store_4 N σ).2 0 6 - 1) := by omega
    subst g4
    rw [(hp.2.2 h2).2.1.2]
    refine And.intro (hp.2.2 h2).2.2.1 ?_
    refine And.intro (hp.2.2 h2).2.2.2.1 ?_
    refine And.intro (hp.2.2 h2).2.2.2.2.1.1 (fun q905 (e5 : (u_X8_store_6 N σ).2 0 5 = q905 + 1) => ?_)
    have g5 : q905 = ((u_X8_store_6 N σ).2 0 5 - 1) := by omega
    subst g5
    rw [(hp.2.2 h2).2.2.2.2.1.2]
    refine zCl.use (c_X1_startAnew ((u_X8_store_6 N σ).2 0 5 - 1) N (u_X8_store_6 N σ) (hp.2.2 h2).2.2.2.2.2.1) (Nat.le_of_ble_eq_true rfl) ?_
    rintro _ σz ⟨rfl, hz⟩
    subst σz
    refine zWp.use ((w_X8_store N N) ((r_X3_readStore (σ.2 0 6 - 1) 1000 1 (σ.1 0 1) N σ).1) ((u_X8_store_4 N σ).2 0 5 - 1) 0 (u_X8_store_7 N σ) (hp.2.2 h2).2.2.2.2.2.2) (And.intro rfl (And.intro rfl (And.intro rfl (And.intro rfl trivial)))) (fun vy σy hy => ?_)
    rw [r_X8_store, if_neg h2]; exact hy
  · exact And.intro rfl (And.intro rfl ⟨by rw [r_X8_store, if_pos h2] <;> rfl, by rw [r_X8_store, if_pos h2] <;> rfl⟩)
