def u_X3_readUnit_h0_1 (G : Nat → Int32 → Int32 → zS → Int32 × zS) (N : Nat) (v1 : Int32) (v2 : Int32) (v3 : Int32) (v4 : Int32) (σ : zS) : zS := (r_X3_refuseToken σ).2
def u_X3_readUnit_h0_2 (G : Nat → Int32 → Int32 → zS → Int32 × zS) (N : Nat) (v1 : Int32) (v2 : Int32) (v3 : Int32) (v4 : Int32) (σ : zS) : zS := (G 4 v1 1 σ).2
def u_X3_readUnit_h1_1 (G : Nat → Int32 → Int32 → zS → Int32 × zS) (N : Nat) (v1 : Int32) (v2 : Int32) (v3 : Int32) (v4 : Int32) (σ : zS) : zS := (r_X3_readNumber 0 9999 N σ).2
def u_X3_readUnit_h2_1 (G : Nat → Int32 → Int32 → zS → Int32 × zS) (N : Nat) (v1 : Int32) (v2 : Int32) (v3 : Int32) (v4 : Int32) (σ : zS) : zS := zuI σ (σ.2 2 1 - 1) 8 ((σ.1 (σ.2 2 1 - 1) 8) + 1)
def u_X3_readUnit_h2_2 (G : Nat → Int32 → Int32 → zS → Int32 × zS) (N : Nat) (v1 : Int32) (v2 : Int32) (v3 : Int32) (v4 : Int32) (σ : zS) : zS := s_X6_next N (u_X3_readUnit_h2_1 G N v1 v2 v3 v4 σ)
def u_X3_readUnit_h2_3 (G : Nat → Int32 → Int32 → zS → Int32 × zS) (N : Nat) (v1 : Int32) (v2 : Int32) (v3 : Int32) (v4 : Int32) (σ : zS) : zS := (G 3 (v1 + 1) 0 (u_X3_readUnit_h2_2 G N v1 v2 v3 v4 σ)).2
def u_X3_readUnit_h2_4 (G : Nat → Int32 → Int32 → zS → Int32 × zS) (N : Nat) (v1 : Int32) (v2 : Int32) (v3 : Int32) (v4 : Int32) (σ : zS) : zS := (r_X2_emit ((u_X3_readUnit_h2_3 G N v1 v2 v3 v4 σ).2 2 1 - 1) 2 0 (u_X3_readUnit_h2_3 G N v1 v2 v3 v4 σ)).2
def u_X3_readUnit_h2_5 (G : Nat → Int32 → Int32 → zS → Int32 × zS) (N : Nat) (v1 : Int32) (v2 : Int32) (v3 : Int32) (v4 : Int32) (σ : zS) : zS := (G 0 (v1 + 1) 0 (u_X3_readUnit_h2_2 G N v1 v2 v3 v4 σ)).2
def u_X3_readUnit_h2_6 (G : Nat → Int32 → Int32 → zS → Int32 × zS) (N : Nat) (v1 : Int32) (v2 : Int32) (v3 : Int32) (v4 : Int32) (σ : zS) : zS := (r_X3_readSign 41 N (u_X3_readUnit_h2_5 G N v1 v2 v3 v4 σ)).2
def u_X3_readUnit_h2_7 (G : Nat → Int32 → Int32 → zS → Int32 × zS) (N : Nat) (v1 : Int32) (v2 : Int32) (v3 : Int32) (v4 : Int32) (σ : zS) : zS := (r_X2_emit ((u_X3_readUnit_h2_1 G N v1 v2 v3 v4 σ).2 2 1 - 1) 0 ((u_X3_readUnit_h2_1 G N v1 v2 v3 v4 σ).1 2 5) (u_X3_readUnit_h2_1 G N v1 v2 v3 v4 σ)).2
def u_X3_readUnit_h2_8 (G : Nat → Int32 → Int32 → zS → Int32 × zS) (N : Nat) (v1 : Int32) (v2 : Int32) (v3 : Int32) (v4 : Int32) (σ : zS) : zS := (r_X3_refuse 5 v4 σ).2
def l_X3_readUnit (G : Nat → Int32 → Int32 → zS → Int32 × zS) (N : Nat) : Nat → Nat → Int32 → Int32 → Int32 → Int32 → zS → Int32 × zS
  | 0, _, _, _, _, _, σ => (0, σ)
  | n + 1, 0, v1, v2, v3, v4, σ => if (σ.1 3 2) = 303 then ((G 4 v1 1 σ).1, (u_X3_readUnit_h0_2 G N v1 v2 v3 v4 σ)) else (if (σ.1 3 2) = 302 then (l_X3_readUnit G N n 1 v1 1 (σ.1 3 2) (σ.1 3 3) σ) else (if (σ.1 3 2) = 40 then (l_X3_readUnit G N n 1 v1 1 (σ.1 3 2) (σ.1 3 3) σ) else (if (σ.1 3 2) = 45 then (l_X3_readUnit G N n 1 v1 1 (σ.1 3 2) (σ.1 3 3) σ) else ((r_X3_refuseToken σ).1, (u_X3_readUnit_h0_1 G N v1 v2 v3 v4 σ)))))
  | n + 1, 1, v1, v2, v3, v4, σ => if v3 = 302 then (if ((r_X3_readNumber 0 9999 N σ).1) = 0 then (0, (u_X3_readUnit_h1_1 G N v1 v2 v3 v4 σ)) else (l_X3_readUnit G N n 2 v1 v2 v3 v4 (u_X3_readUnit_h1_1 G N v1 v2 v3 v4 σ))) else (l_X3_readUnit G N n 2 v1 v2 v3 v4 σ)
  | n + 1, 2, v1, v2, v3, v4, σ => if v2 = 0 then (if v3 = 302 then (1, (u_X3_readUnit_h2_7 G N v1 v2 v3 v4 σ)) else (if v3 = 40 then (if ((G 0 (v1 + 1) 0 (u_X3_readUnit_h2_2 G N v1 v2 v3 v4 σ)).1) = 0 then (l_X3_readUnit G N n 3 v1 v2 v3 v4 (u_X3_readUnit_h2_5 G N v1 v2 v3 v4 σ)) else (if ((r_X3_readSign 41 N (u_X3_readUnit_h2_5 G N v1 v2 v3 v4 σ)).1) = 0 then (l_X3_readUnit G N n 3 v1 v2 v3 v4 (u_X3_readUnit_h2_6 G N v1 v2 v3 v4 σ)) else (1, (u_X3_readUnit_h2_6 G N v1 v2 v3 v4 σ)))) else (if ((G 3 (v1 + 1) 0 (u_X3_readUnit_h2_2 G N v1 v2 v3 v4 σ)).1) = 0 then (0, (u_X3_readUnit_h2_3 G N v1 v2 v3 v4 σ)) else (1, (u_X3_readUnit_h2_4 G N v1 v2 v3 v4 σ))))) else ((r_X3_refuse 5 v4 σ).1, (u_X3_readUnit_h2_8 G N v1 v2 v3 v4 σ))
  | n + 1, 3, v1, v2, v3, v4, σ => (0, σ)
  | _ + 1, _, _, _, _, _, σ => (0, σ)
def q_X3_readUnit (P : Nat → Int32 → Int32 → zS → Prop) (G : Nat → Int32 → Int32 → zS → Int32 × zS) (N : Nat) : Nat → Nat → Int32 → Int32 → Int32 → Int32 → zS → Prop
  | 0, _, _, _, _, _, _ => False
  | n + 1, 0, v1, v2, v3, v4, σ => (¬ (σ.1 3 2) = 303 → (((σ.1 3 2) = 302 → q_X3_readUnit P G N n 1 v1 1 (σ.1 3 2) (σ.1 3 3) σ) ∧ (¬ (σ.1 3 2) = 302 → (((σ.1 3 2) = 40 → q_X3_readUnit P G N n 1 v1 1 (σ.1 3 2) (σ.1 3 3) σ) ∧ (¬ (σ.1 3 2) = 40 → ((σ.1 3 2) = 45 → q_X3_readUnit P G N n 1 v1 1 (σ.1 3 2) (σ.1 3 3) σ)))))) ∧ ((σ.1 3 2) = 303 → (P 4 v1 1 σ ∧ ((((G 4 v1 1 σ).1) = 0 ∨ ((G 4 v1 1 σ).1) = 1))))
  | n + 1, 1, v1, v2, v3, v4, σ => (¬ v3 = 302 → q_X3_readUnit P G N n 2 v1 v2 v3 v4 σ) ∧ (v3 = 302 → (p_X3_readNumber 0 9999 N σ ∧ (¬ ((r_X3_readNumber 0 9999 N σ).1) = 0 → q_X3_readUnit P G N n 2 v1 v2 v3 v4 (u_X3_readUnit_h1_1 G N v1 v2 v3 v4 σ))))
  | n + 1, 2, v1, v2, v3, v4, σ => v2 = 0 → ((σ.2 2 1 ≠ 0 ∧ zlay (σ.2 2 1 - 1) = (2, 16)) ∧ ((¬ v3 = 302 → (p_X6_next N (u_X3_readUnit_h2_1 G N v1 v2 v3 v4 σ) ∧ ((¬ v3 = 40 → (P 3 (v1 + 1) 0 (u_X3_readUnit_h2_2 G N v1 v2 v3 v4 σ) ∧ (¬ ((G 3 (v1 + 1) 0 (u_X3_readUnit_h2_2 G N v1 v2 v3 v4 σ)).1) = 0 → (((u_X3_readUnit_h2_3 G N v1 v2 v3 v4 σ).2 2 1 ≠ 0 ∧ zlay ((u_X3_readUnit_h2_3 G N v1 v2 v3 v4 σ).2 2 1 - 1) = (2, 16)) ∧ p_X2_emit ((u_X3_readUnit_h2_3 G N v1 v2 v3 v4 σ).2 2 1 - 1) 2 0 (u_X3_readUnit_h2_3 G N v1 v2 v3 v4 σ))))) ∧ (v3 = 40 → (P 0 (v1 + 1) 0 (u_X3_readUnit_h2_2 G N v1 v2 v3 v4 σ) ∧ ((((G 0 (v1 + 1) 0 (u_X3_readUnit_h2_2 G N v1 v2 v3 v4 σ)).1) = 0 → q_X3_readUnit P G N n 3 v1 v2 v3 v4 (u_X3_readUnit_h2_5 G N v1 v2 v3 v4 σ)) ∧ (¬ ((G 0 (v1 + 1) 0 (u_X3_readUnit_h2_2 G N v1 v2 v3 v4 σ)).1) = 0 → (p_X3_readSign 41 N (u_X3_readUnit_h2_5 G N v1 v2 v3 v4 σ) ∧ (((r_X3_readSign 41 N (u_X3_readUnit_h2_5 G N v1 v2 v3 v4 σ)).1) = 0 → q_X3_readUnit P G N n 3 v1 v2 v3 v4 (u_X3_readUnit_h2_6 G N v1 v2 v3 v4 σ)))))))))) ∧ (v3 = 302 → (((u_X3_readUnit_h2_1 G N v1 v2 v3 v4 σ).2 2 1 ≠ 0 ∧ zlay ((u_X3_readUnit_h2_1 G N v1 v2 v3 v4 σ).2 2 1 - 1) = (2, 16)) ∧ p_X2_emit ((u_X3_readUnit_h2_1 G N v1 v2 v3 v4 σ).2 2 1 - 1) 0 ((u_X3_readUnit_h2_1 G N v1 v2 v3 v4 σ).1 2 5) (u_X3_readUnit_h2_1 G N v1 v2 v3 v4 σ)))))
  | n + 1, 3, v1, v2, v3, v4, σ => True
  | _ + 1, _, _, _, _, _, _ => False
set_option maxRecDepth 100000 in
set_option maxHeartbeats 1000000 in
theorem w_X3_readUnit {nx : Nat} (P : Nat → Int32 → Int32 → zS → Prop) (G : Nat → Int32 → Int32 → zS → Int32 × zS) (N : Nat) (d : Nat) (hd : 40 ≤ d) (hG : zGp d nx G P) : ∀ n : Nat, (∀ (v1 : Int32) (v2 : Int32) (v3 : Int32) (v4 : Int32) (σ : zS), q_X3_readUnit P G N n 0 v1 v2 v3 v4 σ → zWp (d + 1) zall nx 47 (fun v σ1 => v = some (.inl ((l_X3_readUnit G N n 0 v1 v2 v3 v4 σ).1)) ∧ σ1 = (l_X3_readUnit G N n 0 v1 v2 v3 v4 σ).2) zall nx 31 [some (.inr (3, 12, 2)), some (.inl v1), none, none, none] [] σ) ∧ (∀ (v1 : Int32) (v2 : Int32) (v3 : Int32) (v4 : Int32) (σ : zS), q_X3_readUnit P G N n 1 v1 v2 v3 v4 σ → zWp (d + 1) zall nx 47 (fun v σ1 => v = some (.inl ((l_X3_readUnit G N n 1 v1 v2 v3 v4 σ).1)) ∧ σ1 = (l_X3_readUnit G N n 1 v1 v2 v3 v4 σ).2) zall nx 92 [some (.inr (3, 12, 2)), some (.inl v1), some (.inl v2), some (.inl v3), some (.inl v4)] [] σ) ∧ (∀ (v1 : Int32) (v2 : Int32) (v3 : Int32) (v4 : Int32) (σ : zS), q_X3_readUnit P G N n 2 v1 v2 v3 v4 σ → zWp (d + 1) zall nx 47 (fun v σ1 => v = some (.inl ((l_X3_readUnit G N n 2 v1 v2 v3 v4 σ).1)) ∧ σ1 = (l_X3_readUnit G N n 2 v1 v2 v3 v4 σ).2) zall nx 112 [some (.inr (3, 12, 2)), some (.inl v1), some (.inl v2), some (.inl v3), some (.inl v4)] [] σ) ∧ (∀ (v1 : Int32) (v2 : Int32) (v3 : Int32) (v4 : Int32) (σ : zS), q_X3_readUnit P G N n 3 v1 v2 v3 v4 σ → zWp (d + 1) zall nx 47 (fun v σ1 => v = some (.inl ((l_X3_readUnit G N n 3 v1 v2 v3 v4 σ).1)) ∧ σ1 = (l_X3_readUnit G N n 3 v1 v2 v3 v4 σ).2) zall nx 195 [some (.inr (3, 12, 2)), some (.inl v1), some (.inl v2), some (.inl v3), some (.inl v4)] [] σ) := by
  intro n
  induction n with
  | zero => exact ⟨fun _ _ _ _ _ h => h.elim, fun _ _ _ _ _ h => h.elim, fun _ _ _ _ _ h => h.elim, fun _ _ _ _ _ h => h.elim⟩
  | succ n ih =>
    refine ⟨?_, ?_, ?_, ?_⟩
    · intro v1 v2 v3 v4 σ hp
      rw [q_X3_readUnit] at hp
      refine zvc_sound (cd := kX3_readUnit) (cs := [31, 92, 112, 195]) rfl okX3_readUnit 1000 _ _ 31 (zseek kX3_readUnit 31) _ _ _ zseek_sub ?_
      refine And.intro (fun (h1 : ¬ (σ.1 3 2) = 303) => ?_) (fun (h1 : (σ.1 3 2) = 303) => ?_)
      · refine And.intro (fun (h2 : (σ.1 3 2) = 302) => ?_) (fun (h2 : ¬ (σ.1 3 2) = 302) => ?_)
        · refine zWp.use (ih.2.1 v1 1 (σ.1 3 2) (σ.1 3 3) σ ((hp.1 h1).1 h2)) (And.intro rfl (And.intro rfl (And.intro rfl (And.intro rfl (And.intro rfl trivial))))) (fun vy σy hy => ?_)
          rw [l_X3_readUnit, if_neg h1, if_pos h2]; exact hy
        · refine And.intro (fun (h3 : (σ.1 3 2) = 40) => ?_) (fun (h3 : ¬ (σ.1 3 2) = 40) => ?_)
          · refine zWp.use (ih.2.1 v1 1 (σ.1 3 2) (σ.1 3 3) σ (((hp.1 h1).2 h2).1 h3)) (And.intro rfl (And.intro rfl (And.intro rfl (And.intro rfl (And.intro rfl trivial))))) (fun vy σy hy => ?_)
            rw [l_X3_readUnit, if_neg h1, if_neg h2, if_pos h3]; exact hy
          · refine And.intro (fun (h4 : (σ.1 3 2) = 45) => ?_) (fun (h4 : ¬ (σ.1 3 2) = 45) => ?_)
            · refine zWp.use (ih.2.1 v1 1 (σ.1 3 2) (σ.1 3 3) σ ((((hp.1 h1).2 h2).2 h3) h4)) (And.intro rfl (And.intro rfl (And.intro rfl (And.intro rfl (And.intro rfl trivial))))) (fun vy σy hy => ?_)
              rw [l_X3_readUnit, if_neg h1, if_neg h2, if_neg h3, if_pos h4]; exact hy
            · refine zCl.use (c_X3_refuseToken σ) (Nat.le_trans (Nat.le_of_ble_eq_true rfl) hd) ?_
              rintro _ σz ⟨rfl, hz⟩
              subst σz
              exact And.intro rfl (And.intro rfl (And.intro b_X3_refuseToken ⟨by rw [l_X3_readUnit, if_neg h1, if_neg h2, if_neg h3, if_neg h4] <;> rfl, by rw [l_X3_readUnit, if_neg h1, if_neg h2, if_neg h3, if_neg h4] <;> rfl⟩))
      · refine zCl.use (hG 4 v1 1 σ (hp.2 h1).1) (Nat.le_refl d) ?_
        rintro _ σz ⟨rfl, hz⟩
        subst σz
        exact And.intro rfl (And.intro rfl (And.intro (hp.2 h1).2 ⟨by rw [l_X3_readUnit, if_pos h1] <;> rfl, by rw [l_X3_readUnit, if_pos h1] <;> rfl⟩))
    · intro v1 v2 v3 v4 σ hp
      rw [q_X3_readUnit] at hp
      refine zvc_sound (cd := kX3_readUnit) (cs := [31, 92, 112, 195]) rfl okX3_readUnit 1000 _ _ 92 (zseek kX3_readUnit 92) _ _ _ zseek_sub ?_
      refine And.intro (fun (h1 : ¬ v3 = 302) => ?_) (fun (h1 : v3 = 302) => ?_)
      · refine zWp.use (ih.2.2.1 v1 v2 v3 v4 σ (hp.1 h1)) (And.intro rfl (And.intro rfl (And.intro rfl (And.intro rfl (And.intro rfl trivial))))) (fun vy σy hy => ?_)
        rw [l_X3_readUnit, if_neg h1]; exact hy
      · refine zCl.use (c_X3_readNumber 0 9999 N σ (hp.2 h1).1) (Nat.le_trans (Nat.le_of_ble_eq_true rfl) hd) ?_
        rintro _ σz ⟨rfl, hz⟩
        subst σz
        refine And.intro (fun (h2 : ¬ ((r_X3_readNumber 0 9999 N σ).1) = 0) => ?_) (fun (h2 : ((r_X3_readNumber 0 9999 N σ).1) = 0) => ?_)
        · refine zWp.use (ih.2.2.1 v1 v2 v3 v4 (u_X3_readUnit_h1_1 G N v1 v2 v3 v4 σ) ((hp.2 h1).2 h2)) (And.intro rfl (And.intro rfl (And.intro rfl (And.intro rfl (And.intro rfl trivial))))) (fun vy σy hy => ?_)
          rw [l_X3_readUnit, if_pos h1, if_neg h2]; exact hy
        · exact And.intro rfl (And.intro rfl (And.intro (Or.inl rfl) ⟨by rw [l_X3_readUnit, if_pos h1, if_pos h2] <;> rfl, by rw [l_X3_readUnit, if_pos h1, if_pos h2] <;> rfl⟩))
    · intro v1 v2 v3 v4 σ hp
      rw [q_X3_readUnit] at hp
      refine zvc_sound (cd := kX3_readUnit) (cs := [31, 92, 112, 195]) rfl okX3_readUnit 1000 _ _ 112 (zseek kX3_readUnit 112) _ _ _ zseek_sub ?_
      refine And.intro (fun (h1 : v2 = 0) => ?_) (fun (h1 : ¬ v2 = 0) => ?_)
      · refine And.intro (hp h1).1.1 (fun q902 (e2 : σ.2 2 1 = q902 + 1) => ?_)
        have g2 : q902 = (σ.2 2 1 - 1) := by omega
        subst g2
        rw [(hp h1).1.2]
        refine And.intro (fun (h3 : ¬ v3 = 302) => ?_) (fun (h3 : v3 = 302) => ?_)
        · refine zCl.use (c_X6_next N (u_X3_readUnit_h2_1 G N v1 v2 v3 v4 σ) ((hp h1).2.1 h3).1) (Nat.le_trans (Nat.le_of_ble_eq_true rfl) hd) ?_
          rintro _ σz ⟨rfl, hz⟩
          subst σz
          refine And.intro (fun (h4 : ¬ v3 = 40) => ?_) (fun (h4 : v3 = 40) => ?_)
          · refine zCl.use (hG 3 (v1 + 1) 0 (u_X3_readUnit_h2_2 G N v1 v2 v3 v4 σ) (((hp h1).2.1 h3).2.1 h4).1) (Nat.le_refl d) ?_
            rintro _ σz ⟨rfl, hz⟩
            subst σz
            refine And.intro (fun (h5 : ¬ ((G 3 (v1 + 1) 0 (u_X3_readUnit_h2_2 G N v1 v2 v3 v4 σ)).1) = 0) => ?_) (fun (h5 : ((G 3 (v1 + 1) 0 (u_X3_readUnit_h2_2 G N v1 v2 v3 v4 σ)).1) = 0) => ?_)
            · refine And.intro ((((hp h1).2.1 h3).2.1 h4).2 h5).1.1 (fun q906 (e6 : (u_X3_readUnit_h2_3 G N v1 v2 v3 v4 σ).2 2 1 = q906 + 1) => ?_)
              have g6 : q906 = ((u_X3_readUnit_h2_3 G N v1 v2 v3 v4 σ).2 2 1 - 1) := by omega
              subst g6
              rw [((((hp h1).2.1 h3).2.1 h4).2 h5).1.2]
              refine zCl.use (c_X2_emit ((u_X3_readUnit_h2_3 G N v1 v2 v3 v4 σ).2 2 1 - 1) 2 0 (u_X3_readUnit_h2_3 G N v1 v2 v3 v4 σ) ((((hp h1).2.1 h3).2.1 h4).2 h5).2) (Nat.le_trans (Nat.le_of_ble_eq_true rfl) hd) ?_
              rintro _ σz ⟨rfl, hz⟩
              subst σz
              exact And.intro rfl (And.intro rfl (And.intro (Or.inr rfl) ⟨by rw [l_X3_readUnit, if_pos h1, if_neg h3, if_neg h4, if_neg h5] <;> rfl, by rw [l_X3_readUnit, if_pos h1, if_neg h3, if_neg h4, if_neg h5] <;> rfl⟩))
            · exact And.intro rfl (And.intro rfl (And.intro (Or.inl rfl) ⟨by rw [l_X3_readUnit, if_pos h1, if_neg h3, if_neg h4, if_pos h5] <;> rfl, by rw [l_X3_readUnit, if_pos h1, if_neg h3, if_neg h4, if_pos h5] <;> rfl⟩))
          · refine zCl.use (hG 0 (v1 + 1) 0 (u_X3_readUnit_h2_2 G N v1 v2 v3 v4 σ) (((hp h1).2.1 h3).2.2 h4).1) (Nat.le_refl d) ?_
            rintro _ σz ⟨rfl, hz⟩
            subst σz
            refine And.intro (fun (h7 : ((G 0 (v1 + 1) 0 (u_X3_readUnit_h2_2 G N v1 v2 v3 v4 σ)).1) = 0) => ?_) (fun (h7 : ¬ ((G 0 (v1 + 1) 0 (u_X3_readUnit_h2_2 G N v1 v2 v3 v4 σ)).1) = 0) => ?_)
            · refine zWp.use (ih.2.2.2 v1 v2 v3 v4 (u_X3_readUnit_h2_5 G N v1 v2 v3 v4 σ) ((((hp h1).2.1 h3).2.2 h4).2.1 h7)) (And.intro rfl (And.intro rfl (And.intro rfl (And.intro rfl (And.intro rfl trivial))))) (fun vy σy hy => ?_)
              rw [l_X3_readUnit, if_pos h1, if_neg h3, if_pos h4, if_pos h7]; exact hy
            · refine zCl.use (c_X3_readSign 41 N (u_X3_readUnit_h2_5 G N v1 v2 v3 v4 σ) ((((hp h1).2.1 h3).2.2 h4).2.2 h7).1) (Nat.le_trans (Nat.le_of_ble_eq_true rfl) hd) ?_
              rintro _ σz ⟨rfl, hz⟩
              subst σz
              refine And.intro (fun (h8 : ((r_X3_readSign 41 N (u_X3_readUnit_h2_5 G N v1 v2 v3 v4 σ)).1) = 0) => ?_) (fun (h8 : ¬ ((r_X3_readSign 41 N (u_X3_readUnit_h2_5 G N v1 v2 v3 v4 σ)).1) = 0) => ?_)
              · refine zWp.use (ih.2.2.2 v1 v2 v3 v4 (u_X3_readUnit_h2_6 G N v1 v2 v3 v4 σ) (((((hp h1).2.1 h3).2.2 h4).2.2 h7).2 h8)) (And.intro rfl (And.intro rfl (And.intro rfl (And.intro rfl (And.intro rfl trivial))))) (fun vy σy hy => ?_)
                rw [l_X3_readUnit, if_pos h1, if_neg h3, if_pos h4, if_neg h7, if_pos h8]; exact hy
              · exact And.intro rfl (And.intro rfl (And.intro (Or.inr rfl) ⟨by rw [l_X3_readUnit, if_pos h1, if_neg h3, if_pos h4, if_neg h7, if_neg h8] <;> rfl, by rw [l_X3_readUnit, if_pos h1, if_neg h3, if_pos h4, if_neg h7, if_neg h8] <;> rfl⟩))
        · refine And.intro ((hp h1).2.2 h3).1.1 (fun q909 (e9 : (u_X3_readUnit_h2_1 G N v1 v2 v3 v4 σ).2 2 1 = q909 + 1) => ?_)
          have g9 : q909 = ((u_X3_readUnit_h2_1 G N v1 v2 v3 v4 σ).2 2 1 - 1) := by omega
          subst g9
          rw [((hp h1).2.2 h3).1.2]
          refine zCl.use (c_X2_emit ((u_X3_readUnit_h2_1 G N v1 v2 v3 v4 σ).2 2 1 - 1) 0 ((u_X3_readUnit_h2_1 G N v1 v2 v3 v4 σ).1 2 5) (u_X3_readUnit_h2_1 G N v1 v2 v3 v4 σ) ((hp h1).2.2 h3).2) (Nat.le_trans (Nat.le_of_ble_eq_true rfl) hd) ?_
          rintro _ σz ⟨rfl, hz⟩
          subst σz
          exact And.intro rfl (And.intro rfl (And.intro (Or.inr rfl) ⟨by rw [l_X3_readUnit, if_pos h1, if_pos h3] <;> rfl, by rw [l_X3_readUnit, if_pos h1, if_pos h3] <;> rfl⟩))
      · refine zCl.use (c_X3_refuse 5 v4 σ) (Nat.le_trans (Nat.le_of_ble_eq_true rfl) hd) ?_
        rintro _ σz ⟨rfl, hz⟩
        subst σz
        exact And.intro rfl (And.intro rfl (And.intro b_X3_refuse ⟨by rw [l_X3_readUnit, if_neg h1] <;> rfl, by rw [l_X3_readUnit, if_neg h1] <;> rfl⟩))
    · intro v1 v2 v3 v4 σ _
      refine zvc_sound (cd := kX3_readUnit) (cs := [31, 92, 112, 195]) rfl okX3_readUnit 1000 _ _ 195 (zseek kX3_readUnit 195) _ _ _ zseek_sub ?_
      exact And.intro rfl (And.intro rfl (And.intro (Or.inl rfl) ⟨by rw [l_X3_readUnit] <;> rfl, by rw [l_X3_readUnit] <;> rfl⟩))
def u_X3_readUnit_1 (G : Nat → Int32 → Int32 → zS → Int32 × zS) (x1 : Int32) (N : Nat) (σ : zS) : zS := (r_X3_refuseToken σ).2
def u_X3_readUnit_2 (G : Nat → Int32 → Int32 → zS → Int32 × zS) (x1 : Int32) (N : Nat) (σ : zS) : zS := (G 4 x1 0 σ).2
def r_X3_readUnit (G : Nat → Int32 → Int32 → zS → Int32 × zS) (x1 : Int32) (N : Nat) (σ : zS) : Int32 × zS := if 80 ≤ (σ.1 (σ.2 2 1 - 1) 8) then (l_X3_readUnit G N N 0 x1 0 0 0 σ) else (if 5 < x1 then (l_X3_readUnit G N N 0 x1 0 0 0 σ) else (if (σ.1 3 3) = (σ.1 2 6) then (l_X3_readUnit G N N 0 x1 0 0 0 σ) else (if (σ.1 3 2) = 303 then ((G 4 x1 0 σ).1, (u_X3_readUnit_2 G x1 N σ)) else (if (σ.1 3 2) = 302 then (l_X3_readUnit G N N 1 x1 0 (σ.1 3 2) (σ.1 3 3) σ) else (if (σ.1 3 2) = 40 then (l_X3_readUnit G N N 1 x1 0 (σ.1 3 2) (σ.1 3 3) σ) else (if (σ.1 3 2) = 45 then (l_X3_readUnit G N N 1 x1 0 (σ.1 3 2) (σ.1 3 3) σ) else ((r_X3_refuseToken σ).1, (u_X3_readUnit_1 G x1 N σ))))))))
def p_X3_readUnit (P : Nat → Int32 → Int32 → zS → Prop) (G : Nat → Int32 → Int32 → zS → Int32 × zS) (x1 : Int32) (N : Nat) (σ : zS) : Prop := (σ.2 2 1 ≠ 0 ∧ zlay (σ.2 2 1 - 1) = (2, 16)) ∧ ((80 ≤ (σ.1 (σ.2 2 1 - 1) 8) → q_X3_readUnit P G N N 0 x1 0 0 0 σ) ∧ (¬ 80 ≤ (σ.1 (σ.2 2 1 - 1) 8) → ((5 < x1 → q_X3_readUnit P G N N 0 x1 0 0 0 σ) ∧ (¬ 5 < x1 → ((¬ (σ.1 3 3) = (σ.1 2 6) → ((¬ (σ.1 3 2) = 303 → (((σ.1 3 2) = 302 → q_X3_readUnit P G N N 1 x1 0 (σ.1 3 2) (σ.1 3 3) σ) ∧ (¬ (σ.1 3 2) = 302 → (((σ.1 3 2) = 40 → q_X3_readUnit P G N N 1 x1 0 (σ.1 3 2) (σ.1 3 3) σ) ∧ (¬ (σ.1 3 2) = 40 → ((σ.1 3 2) = 45 → q_X3_readUnit P G N N 1 x1 0 (σ.1 3 2) (σ.1 3 3) σ)))))) ∧ ((σ.1 3 2) = 303 → (P 4 x1 0 σ ∧ ((((G 4 x1 0 σ).1) = 0 ∨ ((G 4 x1 0 σ).1) = 1)))))) ∧ ((σ.1 3 3) = (σ.1 2 6) → q_X3_readUnit P G N N 0 x1 0 0 0 σ))))))
set_option maxRecDepth 100000 in
set_option maxHeartbeats 1000000 in
theorem c_X3_readUnit {nx : Nat} (P : Nat → Int32 → Int32 → zS → Prop) (G : Nat → Int32 → Int32 → zS → Int32 × zS) (x1 : Int32) (N : Nat) (σ : zS) (d : Nat) (hd : 40 ≤ d) (hG : zGp d nx G P) (hp : p_X3_readUnit P G x1 N σ) : zCl (d + 1) zall nx zall nx 47 [.inr (3, 12, 2), .inl x1] σ (fun v σ1 => v = some (.inl ((r_X3_readUnit G x1 N σ).1)) ∧ σ1 = (r_X3_readUnit G x1 N σ).2) := by
  refine zmeth (cd := kX3_readUnit) [31, 92, 112, 195] 1000 (Nat.le_of_ble_eq_true rfl) rfl okX3_readUnit (Nat.le_refl _) (Nat.le_of_ble_eq_true rfl) ?_
  refine And.intro hp.1.1 (fun q901 (e1 : σ.2 2 1 = q901 + 1) => ?_)
  have g1 : q901 = (σ.2 2 1 - 1) := by omega
  subst g1
  rw [hp.1.2]
  refine And.intro (fun (h2 : 80 ≤ (σ.1 (σ.2 2 1 - 1) 8)) => ?_) (fun (h2 : ¬ 80 ≤ (σ.1 (σ.2 2 1 - 1) 8)) => ?_)
  · refine zWp.use ((w_X3_readUnit P G N d hd hG N).1 x1 0 0 0 σ (hp.2.1 h2)) (And.intro rfl (And.intro rfl trivial)) (fun vy σy hy => ?_)
    rw [r_X3_readUnit, if_pos h2]; exact hy
  · refine And.intro (fun (h3 : 5 < x1) => ?_) (fun (h3 : ¬ 5 < x1) => ?_)
    · refine zWp.use ((w_X3_readUnit P G N d hd hG N).1 x1 0 0 0 σ ((hp.2.2 h2).1 h3)) (And.intro rfl (And.intro rfl trivial)) (fun vy σy hy => ?_)
      rw [r_X3_readUnit, if_neg h2, if_pos h3]; exact hy
    · refine And.intro (fun (h4 : ¬ (σ.1 3 3) = (σ.1 2 6)) => ?_) (fun (h4 : (σ.1 3 3) = (σ.1 2 6)) => ?_)
      · refine And.intro (fun (h5 : ¬ (σ.1 3 2) = 303) => ?_) (fun (h5 : (σ.1 3 2) = 303) => ?_)
        · refine And.intro (fun (h6 : (σ.1 3 2) = 302) => ?_) (fun (h6 : ¬ (σ.1 3 2) = 302) => ?_)
          · refine zWp.use ((w_X3_readUnit P G N d hd hG N).2.1 x1 0 (σ.1 3 2) (σ.1 3 3) σ (((((hp.2.2 h2).2 h3).1 h4).1 h5).1 h6)) (And.intro rfl (And.intro rfl (And.intro rfl (And.intro rfl (And.intro rfl trivial))))) (fun vy σy hy => ?_)
            rw [r_X3_readUnit, if_neg h2, if_neg h3, if_neg h4, if_neg h5, if_pos h6]; exact hy
          · refine And.intro (fun (h7 : (σ.1 3 2) = 40) => ?_) (fun (h7 : ¬ (σ.1 3 2) = 40) => ?_)
            · refine zWp.use ((w_X3_readUnit P G N d hd hG N).2.1 x1 0 (σ.1 3 2) (σ.1 3 3) σ ((((((hp.2.2 h2).2 h3).1 h4).1 h5).2 h6).1 h7)) (And.intro rfl (And.intro rfl (And.intro rfl (And.intro rfl (And.intro rfl trivial))))) (fun vy σy hy => ?_)
              rw [r_X3_readUnit, if_neg h2, if_neg h3, if_neg h4, if_neg h5, if_neg h6, if_pos h7]; exact hy
            · refine And.intro (fun (h8 : (σ.1 3 2) = 45) => ?_) (fun (h8 : ¬ (σ.1 3 2) = 45) => ?_)
              · refine zWp.use ((w_X3_readUnit P G N d hd hG N).2.1 x1 0 (σ.1 3 2) (σ.1 3 3) σ (((((((hp.2.2 h2).2 h3).1 h4).1 h5).2 h6).2 h7) h8)) (And.intro rfl (And.intro rfl (And.intro rfl (And.intro rfl (And.intro rfl trivial))))) (fun vy σy hy => ?_)
                rw [r_X3_readUnit, if_neg h2, if_neg h3, if_neg h4, if_neg h5, if_neg h6, if_neg h7, if_pos h8]; exact hy
              · refine zCl.use (c_X3_refuseToken σ) (Nat.le_trans (Nat.le_of_ble_eq_true rfl) hd) ?_
                rintro _ σz ⟨rfl, hz⟩
                subst σz
                exact And.intro rfl (And.intro rfl (And.intro b_X3_refuseToken ⟨by rw [r_X3_readUnit, if_neg h2, if_neg h3, if_neg h4, if_neg h5, if_neg h6, if_neg h7, if_neg h8] <;> rfl, by rw [r_X3_readUnit, if_neg h2, if_neg h3, if_neg h4, if_neg h5, if_neg h6, if_neg h7, if_neg h8] <;> rfl⟩))
        · refine zCl.use (hG 4 x1 0 σ ((((hp.2.2 h2).2 h3).1 h4).2 h5).1) (Nat.le_refl d) ?_
          rintro _ σz ⟨rfl, hz⟩
          subst σz
          exact And.intro rfl (And.intro rfl (And.intro ((((hp.2.2 h2).2 h3).1 h4).2 h5).2 ⟨by rw [r_X3_readUnit, if_neg h2, if_neg h3, if_neg h4, if_pos h5] <;> rfl, by rw [r_X3_readUnit, if_neg h2, if_neg h3, if_neg h4, if_pos h5] <;> rfl⟩))
      · refine zWp.use ((w_X3_readUnit P G N d hd hG N).1 x1 0 0 0 σ (((hp.2.2 h2).2 h3).2 h4)) (And.intro rfl (And.intro rfl trivial)) (fun vy σy hy => ?_)
        rw [r_X3_readUnit, if_neg h2, if_neg h3, if_pos h4]; exact hy
def u_X3_readNamed_1 (G : Nat → Int32 → Int32 → zS → Int32 × zS) (x1 : Int32) (x2 : Int32) (N : Nat) (σ : zS) : zS := s_X6_next N σ
def u_X3_readNamed_2 (G : Nat → Int32 → Int32 → zS → Int32 × zS) (x1 : Int32) (x2 : Int32) (N : Nat) (σ : zS) : zS := zuI (u_X3_readNamed_1 G x1 x2 N σ) ((u_X3_readNamed_1 G x1 x2 N σ).2 2 1 - 1) 8 (((u_X3_readNamed_1 G x1 x2 N σ).1 ((u_X3_readNamed_1 G x1 x2 N σ).2 2 1 - 1) 8) + 1)
def u_X3_readNamed_3 (G : Nat → Int32 → Int32 → zS → Int32 × zS) (x1 : Int32) (x2 : Int32) (N : Nat) (σ : zS) : zS := (r_X2_emit ((u_X3_readNamed_2 G x1 x2 N σ).2 2 1 - 1) 1 (f_X3_parameterNamed (σ.1 3 3) (σ.1 3 4) N (u_X3_readNamed_1 G x1 x2 N σ)) (u_X3_readNamed_2 G x1 x2 N σ)).2
def u_X3_readNamed_4 (G : Nat → Int32 → Int32 → zS → Int32 × zS) (x1 : Int32) (x2 : Int32) (N : Nat) (σ : zS) : zS := (r_X3_refuse 5 (σ.1 3 3) (u_X3_readNamed_1 G x1 x2 N σ)).2
def u_X3_readNamed_5 (G : Nat → Int32 → Int32 → zS → Int32 × zS) (x1 : Int32) (x2 : Int32) (N : Nat) (σ : zS) : zS := (r_X3_refuse 4 (σ.1 3 3) (u_X3_readNamed_1 G x1 x2 N σ)).2
def u_X3_readNamed_6 (G : Nat → Int32 → Int32 → zS → Int32 × zS) (x1 : Int32) (x2 : Int32) (N : Nat) (σ : zS) : zS := zuI (u_X3_readNamed_1 G x1 x2 N σ) ((u_X3_readNamed_1 G x1 x2 N σ).2 2 1 - 1) 8 (((u_X3_readNamed_1 G x1 x2 N σ).1 ((u_X3_readNamed_1 G x1 x2 N σ).2 2 1 - 1) 8) + 1)
def u_X3_readNamed_7 (G : Nat → Int32 → Int32 → zS → Int32 × zS) (x1 : Int32) (x2 : Int32) (N : Nat) (σ : zS) : zS := s_X6_next N (u_X3_readNamed_6 G x1 x2 N σ)
def u_X3_readNamed_8 (G : Nat → Int32 → Int32 → zS → Int32 × zS) (x1 : Int32) (x2 : Int32) (N : Nat) (σ : zS) : zS := (G 5 (f_X8_at 6 (((u_X3_readNamed_7 G x1 x2 N σ).2 2 1 - 1) + 2) (f_X3_functionNamed (σ.1 3 3) (σ.1 3 4) N (u_X3_readNamed_1 G x1 x2 N σ)) (u_X3_readNamed_7 G x1 x2 N σ)) (x1 + 1) (u_X3_readNamed_7 G x1 x2 N σ)).2
def u_X3_readNamed_9 (G : Nat → Int32 → Int32 → zS → Int32 × zS) (x1 : Int32) (x2 : Int32) (N : Nat) (σ : zS) : zS := (r_X2_emit ((u_X3_readNamed_8 G x1 x2 N σ).2 2 1 - 1) 12 (f_X3_functionNamed (σ.1 3 3) (σ.1 3 4) N (u_X3_readNamed_1 G x1 x2 N σ)) (u_X3_readNamed_8 G x1 x2 N σ)).2
def u_X3_readNamed_10 (G : Nat → Int32 → Int32 → zS → Int32 × zS) (x1 : Int32) (x2 : Int32) (N : Nat) (σ : zS) : zS := (r_X3_refuse 5 (σ.1 3 3) (u_X3_readNamed_1 G x1 x2 N σ)).2
def u_X3_readNamed_11 (G : Nat → Int32 → Int32 → zS → Int32 × zS) (x1 : Int32) (x2 : Int32) (N : Nat) (σ : zS) : zS := (r_X3_refuse 4 (σ.1 3 3) (u_X3_readNamed_1 G x1 x2 N σ)).2
def r_X3_readNamed (G : Nat → Int32 → Int32 → zS → Int32 × zS) (x1 : Int32) (x2 : Int32) (N : Nat) (σ : zS) : Int32 × zS := if ((u_X3_readNamed_1 G x1 x2 N σ).1 3 2) = 40 then (if (f_X3_functionNamed (σ.1 3 3) (σ.1 3 4) N (u_X3_readNamed_1 G x1 x2 N σ)) = (-1) then ((r_X3_refuse 4 (σ.1 3 3) (u_X3_readNamed_1 G x1 x2 N σ)).1, (u_X3_readNamed_11 G x1 x2 N σ)) else (if x2 = 0 then (if ((G 5 (f_X8_at 6 (((u_X3_readNamed_7 G x1 x2 N σ).2 2 1 - 1) + 2) (f_X3_functionNamed (σ.1 3 3) (σ.1 3 4) N (u_X3_readNamed_1 G x1 x2 N σ)) (u_X3_readNamed_7 G x1 x2 N σ)) (x1 + 1) (u_X3_readNamed_7 G x1 x2 N σ)).1) = 0 then (0, (u_X3_readNamed_8 G x1 x2 N σ)) else (1, (u_X3_readNamed_9 G x1 x2 N σ))) else ((r_X3_refuse 5 (σ.1 3 3) (u_X3_readNamed_1 G x1 x2 N σ)).1, (u_X3_readNamed_10 G x1 x2 N σ)))) else (if (f_X3_parameterNamed (σ.1 3 3) (σ.1 3 4) N (u_X3_readNamed_1 G x1 x2 N σ)) = (-1) then ((r_X3_refuse 4 (σ.1 3 3) (u_X3_readNamed_1 G x1 x2 N σ)).1, (u_X3_readNamed_5 G x1 x2 N σ)) else (if x2 = 0 then (1, (u_X3_readNamed_3 G x1 x2 N σ)) else ((r_X3_refuse 5 (σ.1 3 3) (u_X3_readNamed_1 G x1 x2 N σ)).1, (u_X3_readNamed_4 G x1 x2 N σ))))
def p_X3_readNamed (P : Nat → Int32 → Int32 → zS → Prop) (G : Nat → Int32 → Int32 → zS → Int32 × zS) (x1 : Int32) (x2 : Int32) (N : Nat) (σ : zS) : Prop := p_X6_next N σ ∧ ((¬ ((u_X3_readNamed_1 G x1 x2 N σ).1 3 2) = 40 → (p_X3_parameterNamed (σ.1 3 3) (σ.1 3 4) N (u_X3_readNamed_1 G x1 x2 N σ) ∧ (¬ (f_X3_parameterNamed (σ.1 3 3) (σ.1 3 4) N (u_X3_readNamed_1 G x1 x2 N σ)) = (-1) → (x2 = 0 → (((u_X3_readNamed_1 G x1 x2 N σ).2 2 1 ≠ 0 ∧ zlay ((u_X3_readNamed_1 G x1 x2 N σ).2 2 1 - 1) = (2, 16)) ∧ (((u_X3_readNamed_2 G x1 x2 N σ).2 2 1 ≠ 0 ∧ zlay ((u_X3_readNamed_2 G x1 x2 N σ).2 2 1 - 1) = (2, 16)) ∧ p_X2_emit ((u_X3_readNamed_2 G x1 x2 N σ).2 2 1 - 1) 1 (f_X3_parameterNamed (σ.1 3 3) (σ.1 3 4) N (u_X3_readNamed_1 G x1 x2 N σ)) (u_X3_readNamed_2 G x1 x2 N σ))))))) ∧ (((u_X3_readNamed_1 G x1 x2 N σ).1 3 2) = 40 → (p_X3_functionNamed (σ.1 3 3) (σ.1 3 4) N (u_X3_readNamed_1 G x1 x2 N σ) ∧ (¬ (f_X3_functionNamed (σ.1 3 3) (σ.1 3 4) N (u_X3_readNamed_1 G x1 x2 N σ)) = (-1) → (x2 = 0 → (((u_X3_readNamed_1 G x1 x2 N σ).2 2 1 ≠ 0 ∧ zlay ((u_X3_readNamed_1 G x1 x2 N σ).2 2 1 - 1) = (2, 16)) ∧ (p_X6_next N (u_X3_readNamed_6 G x1 x2 N σ) ∧ (((u_X3_readNamed_7 G x1 x2 N σ).2 2 1 ≠ 0 ∧ zlay ((u_X3_readNamed_7 G x1 x2 N σ).2 2 1 - 1) = (2, 16)) ∧ (p_X8_at 6 (((u_X3_readNamed_7 G x1 x2 N σ).2 2 1 - 1) + 2) (f_X3_functionNamed (σ.1 3 3) (σ.1 3 4) N (u_X3_readNamed_1 G x1 x2 N σ)) (u_X3_readNamed_7 G x1 x2 N σ) ∧ (P 5 (f_X8_at 6 (((u_X3_readNamed_7 G x1 x2 N σ).2 2 1 - 1) + 2) (f_X3_functionNamed (σ.1 3 3) (σ.1 3 4) N (u_X3_readNamed_1 G x1 x2 N σ)) (u_X3_readNamed_7 G x1 x2 N σ)) (x1 + 1) (u_X3_readNamed_7 G x1 x2 N σ) ∧ (¬ ((G 5 (f_X8_at 6 (((u_X3_readNamed_7 G x1 x2 N σ).2 2 1 - 1) + 2) (f_X3_functionNamed (σ.1 3 3) (σ.1 3 4) N (u_X3_readNamed_1 G x1 x2 N σ)) (u_X3_readNamed_7 G x1 x2 N σ)) (x1 + 1) (u_X3_readNamed_7 G x1 x2 N σ)).1) = 0 → (((u_X3_readNamed_8 G x1 x2 N σ).2 2 1 ≠ 0 ∧ zlay ((u_X3_readNamed_8 G x1 x2 N σ).2 2 1 - 1) = (2, 16)) ∧ p_X2_emit ((u_X3_readNamed_8 G x1 x2 N σ).2 2 1 - 1) 12 (f_X3_functionNamed (σ.1 3 3) (σ.1 3 4) N (u_X3_readNamed_1 G x1 x2 N σ)) (u_X3_readNamed_8 G x1 x2 N σ)))))))))))))
set_option maxRecDepth 100000 in
set_option maxHeartbeats 1000000 in
theorem c_X3_readNamed {nx : Nat} (P : Nat → Int32 → Int32 → zS → Prop) (G : Nat → Int32 → Int32 → zS → Int32 × zS) (x1 : Int32) (x2 : Int32) (N : Nat) (σ : zS) (d : Nat) (hd : 40 ≤ d) (hG : zGp d nx G P) (hp : p_X3_readNamed P G x1 x2 N σ) : zCl (d + 1) zall nx zall nx 48 [.inr (3, 12, 2), .inl x1, .inl x2] σ (fun v σ1 => v = some (.inl ((r_X3_readNamed G x1 x2 N σ).1)) ∧ σ1 = (r_X3_readNamed G x1 x2 N σ).2) := by
  refine zmeth (cd := kX3_readNamed) [] 1000 (Nat.le_of_ble_eq_true rfl) rfl okX3_readNamed (Nat.le_refl _) (Nat.le_of_ble_eq_true rfl) ?_
  refine zCl.use (c_X6_next N σ hp.1) (Nat.le_trans (Nat.le_of_ble_eq_true rfl) hd) ?_
  rintro _ σz ⟨rfl, hz⟩
  subst σz
  refine And.intro (fun (h1 : ¬ ((u_X3_readNamed_1 G x1 x2 N σ).1 3 2) = 40) => ?_) (fun (h1 : ((u_X3_readNamed_1 G x1 x2 N σ).1 3 2) = 40) => ?_)
  · refine And.intro (fun _ => ?_) (fun (z : ¬ (0 : Int32) = 0) => absurd z (by decide))
    refine zCl.use (c_X3_parameterNamed (σ.1 3 3) (σ.1 3 4) N (u_X3_readNamed_1 G x1 x2 N σ) (hp.2.1 h1).1) (Nat.le_trans (Nat.le_of_ble_eq_true rfl) hd) ?_
    rintro _ σz ⟨rfl, hz⟩
    subst σz
    refine And.intro (fun (h2 : ¬ (f_X3_parameterNamed (σ.1 3 3) (σ.1 3 4) N (u_X3_readNamed_1 G x1 x2 N σ)) = (-1)) => ?_) (fun (h2 : (f_X3_parameterNamed (σ.1 3 3) (σ.1 3 4) N (u_X3_readNamed_1 G x1 x2 N σ)) = (-1)) => ?_)
    · refine And.intro (fun (h3 : x2 = 0) => ?_) (fun (h3 : ¬ x2 = 0) => ?_)
      · refine And.intro (((hp.2.1 h1).2 h2) h3).1.1 (fun q904 (e4 : (u_X3_readNamed_1 G x1 x2 N σ).2 2 1 = q904 + 1) => ?_)
        have g4 : q904 = ((u_X3_readNamed_1 G x1 x2 N σ).2 2 1 - 1) := by omega
        subst g4
        rw [(((hp.2.1 h1).2 h2) h3).1.2]
        refine And.intro (fun _ => ?_) (fun (z : ¬ (0 : Int32) = 0) => absurd z (by decide))
        refine And.intro (((hp.2.1 h1).2 h2) h3).2.1.1 (fun q905 (e5 : (u_X3_readNamed_2 G x1 x2 N σ).2 2 1 = q905 + 1) => ?_)
        have g5 : q905 = ((u_X3_readNamed_2 G x1 x2 N σ).2 2 1 - 1) := by omega
        subst g5
        rw [(((hp.2.1 h1).2 h2) h3).2.1.2]
        refine And.intro (fun _ => ?_) (fun (z : ¬ (0 : Int32) = 0) => absurd z (by decide))
        refine zCl.use (c_X2_emit ((u_X3_readNamed_2 G x1 x2 N σ).2 2 1 - 1) 1 (f_X3_parameterNamed (σ.1 3 3) (σ.1 3 4) N (u_X3_readNamed_1 G x1 x2 N σ)) (u_X3_readNamed_2 G x1 x2 N σ) (((hp.2.1 h1).2 h2) h3).2.2) (Nat.le_trans (Nat.le_of_ble_eq_true rfl) hd) ?_
        rintro _ σz ⟨rfl, hz⟩
        subst σz
        exact And.intro rfl (And.intro rfl (And.intro (Or.inr rfl) ⟨by rw [r_X3_readNamed, if_neg h1, if_neg h2, if_pos h3] <;> rfl, by rw [r_X3_readNamed, if_neg h1, if_neg h2, if_pos h3] <;> rfl⟩))
      · refine zCl.use (c_X3_refuse 5 (σ.1 3 3) (u_X3_readNamed_1 G x1 x2 N σ)) (Nat.le_trans (Nat.le_of_ble_eq_true rfl) hd) ?_
        rintro _ σz ⟨rfl, hz⟩
        subst σz
        exact And.intro rfl (And.intro rfl (And.intro b_X3_refuse ⟨by rw [r_X3_readNamed, if_neg h1, if_neg h2, if_neg h3] <;> rfl, by rw [r_X3_readNamed, if_neg h1, if_neg h2, if_neg h3] <;> rfl⟩))
    · refine zCl.use (c_X3_refuse 4 (σ.1 3 3) (u_X3_readNamed_1 G x1 x2 N σ)) (Nat.le_trans (Nat.le_of_ble_eq_true rfl) hd) ?_
      rintro _ σz ⟨rfl, hz⟩
      subst σz
      exact And.intro rfl (And.intro rfl (And.intro b_X3_refuse ⟨by rw [r_X3_readNamed, if_neg h1, if_pos h2] <;> rfl, by rw [r_X3_readNamed, if_neg h1, if_pos h2] <;> rfl⟩))
  · refine And.intro (fun (z : (1 : Int32) = 0) => absurd z (by decide)) (fun _ => ?_)
    refine zCl.use (c_X3_functionNamed (σ.1 3 3) (σ.1 3 4) N (u_X3_readNamed_1 G x1 x2 N σ) (hp.2.2 h1).1) (Nat.le_trans (Nat.le_of_ble_eq_true rfl) hd) ?_
    rintro _ σz ⟨rfl, hz⟩
    subst σz
    refine And.intro (fun (h6 : ¬ (f_X3_functionNamed (σ.1 3 3) (σ.1 3 4) N (u_X3_readNamed_1 G x1 x2 N σ)) = (-1)) => ?_) (fun (h6 : (f_X3_functionNamed (σ.1 3 3) (σ.1 3 4) N (u_X3_readNamed_1 G x1 x2 N σ)) = (-1)) => ?_)
    · refine And.intro (fun (h7 : x2 = 0) => ?_) (fun (h7 : ¬ x2 = 0) => ?_)
      · refine And.intro (((hp.2.2 h1).2 h6) h7).1.1 (fun q908 (e8 : (u_X3_readNamed_1 G x1 x2 N σ).2 2 1 = q908 + 1) => ?_)
        have g8 : q908 = ((u_X3_readNamed_1 G x1 x2 N σ).2 2 1 - 1) := by omega
        subst g8
        rw [(((hp.2.2 h1).2 h6) h7).1.2]
        refine And.intro (fun (z : (1 : Int32) = 0) => absurd z (by decide)) (fun _ => ?_)
        refine zCl.use (c_X6_next N (u_X3_readNamed_6 G x1 x2 N σ) (((hp.2.2 h1).2 h6) h7).2.1) (Nat.le_trans (Nat.le_of_ble_eq_true rfl) hd) ?_
        rintro _ σz ⟨rfl, hz⟩
        subst σz
        refine And.intro (((hp.2.2 h1).2 h6) h7).2.2.1.1 (fun q909 (e9 : (u_X3_readNamed_7 G x1 x2 N σ).2 2 1 = q909 + 1) => ?_)
        have g9 : q909 = ((u_X3_readNamed_7 G x1 x2 N σ).2 2 1 - 1) := by omega
        subst g9
        rw [(((hp.2.2 h1).2 h6) h7).2.2.1.2]
        refine zCl.use (c_X8_at 6 (((u_X3_readNamed_7 G x1 x2 N σ).2 2 1 - 1) + 2) (f_X3_functionNamed (σ.1 3 3) (σ.1 3 4) N (u_X3_readNamed_1 G x1 x2 N σ)) (u_X3_readNamed_7 G x1 x2 N σ) (((hp.2.2 h1).2 h6) h7).2.2.2.1) (Nat.le_trans (Nat.le_of_ble_eq_true rfl) hd) ?_
        rintro _ σz ⟨rfl, hz⟩
        subst σz
        refine zCl.use (hG 5 (f_X8_at 6 (((u_X3_readNamed_7 G x1 x2 N σ).2 2 1 - 1) + 2) (f_X3_functionNamed (σ.1 3 3) (σ.1 3 4) N (u_X3_readNamed_1 G x1 x2 N σ)) (u_X3_readNamed_7 G x1 x2 N σ)) (x1 + 1) (u_X3_readNamed_7 G x1 x2 N σ) (((hp.2.2 h1).2 h6) h7).2.2.2.2.1) (Nat.le_refl d) ?_
        rintro _ σz ⟨rfl, hz⟩
        subst σz
        refine And.intro (fun (h10 : ¬ ((G 5 (f_X8_at 6 (((u_X3_readNamed_7 G x1 x2 N σ).2 2 1 - 1) + 2) (f_X3_functionNamed (σ.1 3 3) (σ.1 3 4) N (u_X3_readNamed_1 G x1 x2 N σ)) (u_X3_readNamed_7 G x1 x2 N σ)) (x1 + 1) (u_X3_readNamed_7 G x1 x2 N σ)).1) = 0) => ?_) (fun (h10 : ((G 5 (f_X8_at 6 (((u_X3_readNamed_7 G x1 x2 N σ).2 2 1 - 1) + 2) (f_X3_functionNamed (σ.1 3 3) (σ.1 3 4) N (u_X3_readNamed_1 G x1 x2 N σ)) (u_X3_readNamed_7 G x1 x2 N σ)) (x1 + 1) (u_X3_readNamed_7 G x1 x2 N σ)).1) = 0) => ?_)
        · refine And.intro ((((hp.2.2 h1).2 h6) h7).2.2.2.2.2 h10).1.1 (fun q911 (e11 : (u_X3_readNamed_8 G x1 x2 N σ).2 2 1 = q911 + 1) => ?_)
          have g11 : q911 = ((u_X3_readNamed_8 G x1 x2 N σ).2 2 1 - 1) := by omega
          subst g11
          rw [((((hp.2.2 h1).2 h6) h7).2.2.2.2.2 h10).1.2]
          refine And.intro (fun (z : (1 : Int32) = 0) => absurd z (by decide)) (fun _ => ?_)
          refine zCl.use (c_X2_emit ((u_X3_readNamed_8 G x1 x2 N σ).2 2 1 - 1) 12 (f_X3_functionNamed (σ.1 3 3) (σ.1 3 4) N (u_X3_readNamed_1 G x1 x2 N σ)) (u_X3_readNamed_8 G x1 x2 N σ) ((((hp.2.2 h1).2 h6) h7).2.2.2.2.2 h10).2) (Nat.le_trans (Nat.le_of_ble_eq_true rfl) hd) ?_
          rintro _ σz ⟨rfl, hz⟩
          subst σz
          exact And.intro rfl (And.intro rfl (And.intro (Or.inr rfl) ⟨by rw [r_X3_readNamed, if_pos h1, if_neg h6, if_pos h7, if_neg h10] <;> rfl, by rw [r_X3_readNamed, if_pos h1, if_neg h6, if_pos h7, if_neg h10] <;> rfl⟩))
        · exact And.intro rfl (And.intro rfl (And.intro (Or.inl rfl) ⟨by rw [r_X3_readNamed, if_pos h1, if_neg h6, if_pos h7, if_pos h10] <;> rfl, by rw [r_X3_readNamed, if_pos h1, if_neg h6, if_pos h7, if_pos h10] <;> rfl⟩))
      · refine zCl.use (c_X3_refuse 5 (σ.1 3 3) (u_X3_readNamed_1 G x1 x2 N σ)) (Nat.le_trans (Nat.le_of_ble_eq_true rfl) hd) ?_
        rintro _ σz ⟨rfl, hz⟩
        subst σz
        exact And.intro rfl (And.intro rfl (And.intro b_X3_refuse ⟨by rw [r_X3_readNamed, if_pos h1, if_neg h6, if_neg h7] <;> rfl, by rw [r_X3_readNamed, if_pos h1, if_neg h6, if_neg h7] <;> rfl⟩))
    · refine zCl.use (c_X3_refuse 4 (σ.1 3 3) (u_X3_readNamed_1 G x1 x2 N σ)) (Nat.le_trans (Nat.le_of_ble_eq_true rfl) hd) ?_
      rintro _ σz ⟨rfl, hz⟩
      subst σz
      exact And.intro rfl (And.intro rfl (And.intro b_X3_refuse ⟨by rw [r_X3_readNamed, if_pos h1, if_pos h6] <;> rfl, by rw [r_X3_readNamed, if_pos h1, if_pos h6] <;> rfl⟩))
def u_X3_readArguments_h0_1 (G : Nat → Int32 → Int32 → zS → Int32 × zS) (N : Nat) (v1 : Int32) (v2 : Int32) (v3 : Int32) (σ : zS) : zS := (r_X3_readSign 41 N σ).2
def u_X3_readArguments_h0_2 (G : Nat → Int32 → Int32 → zS → Int32 × zS) (N : Nat) (v1 : Int32) (v2 : Int32) (v3 : Int32) (σ : zS) : zS := (G 0 v2 0 σ).2
def u_X3_readArguments_h0_3 (G : Nat → Int32 → Int32 → zS → Int32 × zS) (N : Nat) (v1 : Int32) (v2 : Int32) (v3 : Int32) (σ : zS) : zS := (r_X3_readSign 44 N (u_X3_readArguments_h0_2 G N v1 v2 v3 σ)).2
def u_X3_readArguments_h0_4 (G : Nat → Int32 → Int32 → zS → Int32 × zS) (N : Nat) (v1 : Int32) (v2 : Int32) (v3 : Int32) (σ : zS) : zS := (r_X3_refuse 5 ((u_X3_readArguments_h0_2 G N v1 v2 v3 σ).1 3 3) (u_X3_readArguments_h0_2 G N v1 v2 v3 σ)).2
def u_X3_readArguments_h0_5 (G : Nat → Int32 → Int32 → zS → Int32 × zS) (N : Nat) (v1 : Int32) (v2 : Int32) (v3 : Int32) (σ : zS) : zS := (r_X3_readSign 44 N (u_X3_readArguments_h0_2 G N v1 v2 v3 σ)).2
def u_X3_readArguments_h0_6 (G : Nat → Int32 → Int32 → zS → Int32 × zS) (N : Nat) (v1 : Int32) (v2 : Int32) (v3 : Int32) (σ : zS) : zS := (r_X3_refuse 5 ((u_X3_readArguments_h0_2 G N v1 v2 v3 σ).1 3 3) (u_X3_readArguments_h0_2 G N v1 v2 v3 σ)).2
def u_X3_readArguments_h0_7 (G : Nat → Int32 → Int32 → zS → Int32 × zS) (N : Nat) (v1 : Int32) (v2 : Int32) (v3 : Int32) (σ : zS) : zS := (r_X3_refuse 5 (σ.1 3 3) σ).2
def l_X3_readArguments (G : Nat → Int32 → Int32 → zS → Int32 × zS) (N : Nat) : Nat → Int32 → Int32 → Int32 → zS → Int32 × zS
  | 0, _, _, _, σ => (0, σ)
  | n + 1, v1, v2, v3, σ => if v1 ≤ v3 then ((r_X3_readSign 41 N σ).1, (u_X3_readArguments_h0_1 G N v1 v2 v3 σ)) else (if (σ.1 3 2) = 41 then ((r_X3_refuse 5 (σ.1 3 3) σ).1, (u_X3_readArguments_h0_7 G N v1 v2 v3 σ)) else (if ((G 0 v2 0 σ).1) = 0 then (0, (u_X3_readArguments_h0_2 G N v1 v2 v3 σ)) else (if v1 ≤ (v3 + 1) then (if ((u_X3_readArguments_h0_2 G N v1 v2 v3 σ).1 3 2) = 44 then ((r_X3_refuse 5 ((u_X3_readArguments_h0_2 G N v1 v2 v3 σ).1 3 3) (u_X3_readArguments_h0_2 G N v1 v2 v3 σ)).1, (u_X3_readArguments_h0_4 G N v1 v2 v3 σ)) else (if v1 ≤ (v3 + 1) then (l_X3_readArguments G N n v1 v2 (v3 + 1) (u_X3_readArguments_h0_2 G N v1 v2 v3 σ)) else (if ((r_X3_readSign 44 N (u_X3_readArguments_h0_2 G N v1 v2 v3 σ)).1) = 0 then (0, (u_X3_readArguments_h0_3 G N v1 v2 v3 σ)) else (l_X3_readArguments G N n v1 v2 (v3 + 1) (u_X3_readArguments_h0_3 G N v1 v2 v3 σ))))) else (if ((u_X3_readArguments_h0_2 G N v1 v2 v3 σ).1 3 2) = 41 then ((r_X3_refuse 5 ((u_X3_readArguments_h0_2 G N v1 v2 v3 σ).1 3 3) (u_X3_readArguments_h0_2 G N v1 v2 v3 σ)).1, (u_X3_readArguments_h0_6 G N v1 v2 v3 σ)) else (if v1 ≤ (v3 + 1) then (l_X3_readArguments G N n v1 v2 (v3 + 1) (u_X3_readArguments_h0_2 G N v1 v2 v3 σ)) else (if ((r_X3_readSign 44 N (u_X3_readArguments_h0_2 G N v1 v2 v3 σ)).1) = 0 then (0, (u_X3_readArguments_h0_5 G N v1 v2 v3 σ)) else (l_X3_readArguments G N n v1 v2 (v3 + 1) (u_X3_readArguments_h0_5 G N v1 v2 v3 σ))))))))
def q_X3_readArguments (P : Nat → Int32 → Int32 → zS → Prop) (G : Nat → Int32 → Int32 → zS → Int32 × zS) (N : Nat) : Nat → Int32 → Int32 → Int32 → zS → Prop
  | 0, _, _, _, _ => False
  | n + 1, v1, v2, v3, σ => (v1 ≤ v3 → p_X3_readSign 41 N σ) ∧ (¬ v1 ≤ v3 → (¬ (σ.1 3 2) = 41 → (P 0 v2 0 σ ∧ (¬ ((G 0 v2 0 σ).1) = 0 → ((v1 ≤ (v3 + 1) → (¬ ((u_X3_readArguments_h0_2 G N v1 v2 v3 σ).1 3 2) = 44 → ((v1 ≤ (v3 + 1) → q_X3_readArguments P G N n v1 v2 (v3 + 1) (u_X3_readArguments_h0_2 G N v1 v2 v3 σ)) ∧ (¬ v1 ≤ (v3 + 1) → (p_X3_readSign 44 N (u_X3_readArguments_h0_2 G N v1 v2 v3 σ) ∧ (¬ ((r_X3_readSign 44 N (u_X3_readArguments_h0_2 G N v1 v2 v3 σ)).1) = 0 → q_X3_readArguments P G N n v1 v2 (v3 + 1) (u_X3_readArguments_h0_3 G N v1 v2 v3 σ))))))) ∧ (¬ v1 ≤ (v3 + 1) → (¬ ((u_X3_readArguments_h0_2 G N v1 v2 v3 σ).1 3 2) = 41 → ((v1 ≤ (v3 + 1) → q_X3_readArguments P G N n v1 v2 (v3 + 1) (u_X3_readArguments_h0_2 G N v1 v2 v3 σ)) ∧ (¬ v1 ≤ (v3 + 1) → (p_X3_readSign 44 N (u_X3_readArguments_h0_2 G N v1 v2 v3 σ) ∧ (¬ ((r_X3_readSign 44 N (u_X3_readArguments_h0_2 G N v1 v2 v3 σ)).1) = 0 → q_X3_readArguments P G N n v1 v2 (v3 + 1) (u_X3_readArguments_h0_5 G N v1 v2 v3 σ))))))))))))
set_option maxRecDepth 100000 in
set_option maxHeartbeats 1000000 in
theorem w_X3_readArguments {nx : Nat} (P : Nat → Int32 → Int32 → zS → Prop) (G : Nat → Int32 → Int32 → zS → Int32 × zS) (N : Nat) (d : Nat) (hd : 40 ≤ d) (hG : zGp d nx G P) : ∀ n : Nat, (∀ (v1 : Int32) (v2 : Int32) (v3 : Int32) (σ : zS), q_X3_readArguments P G N n v1 v2 v3 σ → zWp (d + 1) zall nx 49 (fun v σ1 => v = some (.inl ((l_X3_readArguments G N n v1 v2 v3 σ).1)) ∧ σ1 = (l_X3_readArguments G N n v1 v2 v3 σ).2) zall nx 35 [some (.inr (3, 12, 2)), some (.inl v1), some (.inl v2), some (.inl v3)] [] σ) := by
  intro n
  induction n with
  | zero => exact fun _ _ _ _ h => h.elim
  | succ n ih =>
    intro v1 v2 v3 σ hp
    rw [q_X3_readArguments] at hp
    refine zvc_sound (cd := kX3_readArguments) (cs := [35]) rfl okX3_readArguments 1000 _ _ 35 (zseek kX3_readArguments 35) _ _ _ zseek_sub ?_
    refine And.intro (fun (h1 : v1 ≤ v3) => ?_) (fun (h1 : ¬ v1 ≤ v3) => ?_)
    · refine zCl.use (c_X3_readSign 41 N σ (hp.1 h1)) (Nat.le_trans (Nat.le_of_ble_eq_true rfl) hd) ?_
      rintro _ σz ⟨rfl, hz⟩
      subst σz
      exact And.intro rfl (And.intro rfl (And.intro b_X3_readSign ⟨by rw [l_X3_readArguments, if_pos h1] <;> rfl, by rw [l_X3_readArguments, if_pos h1] <;> rfl⟩))
    · refine And.intro (fun (h2 : ¬ (σ.1 3 2) = 41) => ?_) (fun (h2 : (σ.1 3 2) = 41) => ?_)
      · refine zCl.use (hG 0 v2 0 σ ((hp.2 h1) h2).1) (Nat.le_refl d) ?_
        rintro _ σz ⟨rfl, hz⟩
        subst σz
        refine And.intro (fun (h3 : ¬ ((G 0 v2 0 σ).1) = 0) => ?_) (fun (h3 : ((G 0 v2 0 σ).1) = 0) => ?_)
        · refine And.intro (fun (h4 : v1 ≤ (v3 + 1)) => ?_) (fun (h4 : ¬ v1 ≤ (v3 + 1)) => ?_)
          · refine And.intro (fun (h5 : ¬ ((u_X3_readArguments_h0_2 G N v1 v2 v3 σ).1 3 2) = 44) => ?_) (fun (h5 : ((u_X3_readArguments_h0_2 G N v1 v2 v3 σ).1 3 2) = 44) => ?_)
            · refine And.intro (fun (h6 : v1 ≤ (v3 + 1)) => ?_) (fun (h6 : ¬ v1 ≤ (v3 + 1)) => ?_)
              · refine zWp.use (ih v1 v2 (v3 + 1) (u_X3_readArguments_h0_2 G N v1 v2 v3 σ) ((((((hp.2 h1) h2).2 h3).1 h4) h5).1 h6)) (And.intro rfl (And.intro rfl (And.intro rfl (And.intro rfl trivial)))) (fun vy σy hy => ?_)
                rw [l_X3_readArguments, if_neg h1, if_neg h2, if_neg h3, if_pos h4, if_neg h5, if_pos h6]; exact hy
              · refine zCl.use (c_X3_readSign 44 N (u_X3_readArguments_h0_2 G N v1 v2 v3 σ) ((((((hp.2 h1) h2).2 h3).1 h4) h5).2 h6).1) (Nat.le_trans (Nat.le_of_ble_eq_true rfl) hd) ?_
                rintro _ σz ⟨rfl, hz⟩
                subst σz
                refine And.intro (fun (h7 : ¬ ((r_X3_readSign 44 N (u_X3_readArguments_h0_2 G N v1 v2 v3 σ)).1) = 0) => ?_) (fun (h7 : ((r_X3_readSign 44 N (u_X3_readArguments_h0_2 G N v1 v2 v3 σ)).1) = 0) => ?_)
                · refine zWp.use (ih v1 v2 (v3 + 1) (u_X3_readArguments_h0_3 G N v1 v2 v3 σ) (((((((hp.2 h1) h2).2 h3).1 h4) h5).2 h6).2 h7)) (And.intro rfl (And.intro rfl (And.intro rfl (And.intro rfl trivial)))) (fun vy σy hy => ?_)
                  rw [l_X3_readArguments, if_neg h1, if_neg h2, if_neg h3, if_pos h4, if_neg h5, if_neg h6, if_neg h7]; exact hy
                · exact And.intro rfl (And.intro rfl (And.intro (Or.inl rfl) ⟨by rw [l_X3_readArguments, if_neg h1, if_neg h2, if_neg h3, if_pos h4, if_neg h5, if_neg h6, if_pos h7] <;> rfl, by rw [l_X3_readArguments, if_neg h1, if_neg h2, if_neg h3, if_pos h4, if_neg h5, if_neg h6, if_pos h7] <;> rfl⟩))
            · refine zCl.use (c_X3_refuse 5 ((u_X3_readArguments_h0_2 G N v1 v2 v3 σ).1 3 3) (u_X3_readArguments_h0_2 G N v1 v2 v3 σ)) (Nat.le_trans (Nat.le_of_ble_eq_true rfl) hd) ?_
              rintro _ σz ⟨rfl, hz⟩
              subst σz
              exact And.intro rfl (And.intro rfl (And.intro b_X3_refuse ⟨by rw [l_X3_readArguments, if_neg h1, if_neg h2, if_neg h3, if_pos h4, if_pos h5] <;> rfl, by rw [l_X3_readArguments, if_neg h1, if_neg h2, if_neg h3, if_pos h4, if_pos h5] <;> rfl⟩))
          · refine And.intro (fun (h8 : ¬ ((u_X3_readArguments_h0_2 G N v1 v2 v3 σ).1 3 2) = 41) => ?_) (fun (h8 : ((u_X3_readArguments_h0_2 G N v1 v2 v3 σ).1 3 2) = 41) => ?_)
            · refine And.intro (fun (h9 : v1 ≤ (v3 + 1)) => ?_) (fun (h9 : ¬ v1 ≤ (v3 + 1)) => ?_)
              · refine zWp.use (ih v1 v2 (v3 + 1) (u_X3_readArguments_h0_2 G N v1 v2 v3 σ) ((((((hp.2 h1) h2).2 h3).2 h4) h8).1 h9)) (And.intro rfl (And.intro rfl (And.intro rfl (And.intro rfl trivial)))) (fun vy σy hy => ?_)
                rw [l_X3_readArguments, if_neg h1, if_neg h2, if_neg h3, if_neg h4, if_neg h8, if_pos h9]; exact hy
              · refine zCl.use (c_X3_readSign 44 N (u_X3_readArguments_h0_2 G N v1 v2 v3 σ) ((((((hp.2 h1) h2).2 h3).2 h4) h8).2 h9).1) (Nat.le_trans (Nat.le_of_ble_eq_true rfl) hd) ?_
                rintro _ σz ⟨rfl, hz⟩
                subst σz
                refine And.intro (fun (h10 : ¬ ((r_X3_readSign 44 N (u_X3_readArguments_h0_2 G N v1 v2 v3 σ)).1) = 0) => ?_) (fun (h10 : ((r_X3_readSign 44 N (u_X3_readArguments_h0_2 G N v1 v2 v3 σ)).1) = 0) => ?_)
                · refine zWp.use (ih v1 v2 (v3 + 1) (u_X3_readArguments_h0_5 G N v1 v2 v3 σ) (((((((hp.2 h1) h2).2 h3).2 h4) h8).2 h9).2 h10)) (And.intro rfl (And.intro rfl (And.intro rfl (And.intro rfl trivial)))) (fun vy σy hy => ?_)
                  rw [l_X3_readArguments, if_neg h1, if_neg h2, if_neg h3, if_neg h4, if_neg h8, if_neg h9, if_neg h10]; exact hy
                · exact And.intro rfl (And.intro rfl (And.intro (Or.inl rfl) ⟨by rw [l_X3_readArguments, if_neg h1, if_neg h2, if_neg h3, if_neg h4, if_neg h8, if_neg h9, if_pos h10] <;> rfl, by rw [l_X3_readArguments, if_neg h1, if_neg h2, if_neg h3, if_neg h4, if_neg h8, if_neg h9, if_pos h10] <;> rfl⟩))
            · refine zCl.use (c_X3_refuse 5 ((u_X3_readArguments_h0_2 G N v1 v2 v3 σ).1 3 3) (u_X3_readArguments_h0_2 G N v1 v2 v3 σ)) (Nat.le_trans (Nat.le_of_ble_eq_true rfl) hd) ?_
              rintro _ σz ⟨rfl, hz⟩
              subst σz
              exact And.intro rfl (And.intro rfl (And.intro b_X3_refuse ⟨by rw [l_X3_readArguments, if_neg h1, if_neg h2, if_neg h3, if_neg h4, if_pos h8] <;> rfl, by rw [l_X3_readArguments, if_neg h1, if_neg h2, if_neg h3, if_neg h4, if_pos h8] <;> rfl⟩))
        · exact And.intro rfl (And.intro rfl (And.intro (Or.inl rfl) ⟨by rw [l_X3_readArguments, if_neg h1, if_neg h2, if_pos h3] <;> rfl, by rw [l_X3_readArguments, if_neg h1, if_neg h2, if_pos h3] <;> rfl⟩))
      · refine zCl.use (c_X3_refuse 5 (σ.1 3 3) σ) (Nat.le_trans (Nat.le_of_ble_eq_true rfl) hd) ?_
        rintro _ σz ⟨rfl, hz⟩
        subst σz
        exact And.intro rfl (And.intro rfl (And.intro b_X3_refuse ⟨by rw [l_X3_readArguments, if_neg h1, if_pos h2] <;> rfl, by rw [l_X3_readArguments, if_neg h1, if_pos h2] <;> rfl⟩))
def u_X3_readArguments_1 (G : Nat → Int32 → Int32 → zS → Int32 × zS) (x1 : Int32) (x2 : Int32) (N : Nat) (σ : zS) : zS := zuI σ 2 6 (σ.1 3 3)
def u_X3_readArguments_2 (G : Nat → Int32 → Int32 → zS → Int32 × zS) (x1 : Int32) (x2 : Int32) (N : Nat) (σ : zS) : zS := (G 0 x2 0 (u_X3_readArguments_1 G x1 x2 N σ)).2
def r_X3_readArguments (G : Nat → Int32 → Int32 → zS → Int32 × zS) (x1 : Int32) (x2 : Int32) (N : Nat) (σ : zS) : Int32 × zS := if x1 = 0 then (if (σ.1 3 2) = 41 then (l_X3_readArguments G N N x1 x2 0 σ) else ((G 0 x2 0 (u_X3_readArguments_1 G x1 x2 N σ)).1, (u_X3_readArguments_2 G x1 x2 N σ))) else (l_X3_readArguments G N N x1 x2 0 σ)
def p_X3_readArguments (P : Nat → Int32 → Int32 → zS → Prop) (G : Nat → Int32 → Int32 → zS → Int32 × zS) (x1 : Int32) (x2 : Int32) (N : Nat) (σ : zS) : Prop := (¬ x1 = 0 → q_X3_readArguments P G N N x1 x2 0 σ) ∧ (x1 = 0 → (((σ.1 3 2) = 41 → q_X3_readArguments P G N N x1 x2 0 σ) ∧ (¬ (σ.1 3 2) = 41 → (P 0 x2 0 (u_X3_readArguments_1 G x1 x2 N σ) ∧ ((((G 0 x2 0 (u_X3_readArguments_1 G x1 x2 N σ)).1) = 0 ∨ ((G 0 x2 0 (u_X3_readArguments_1 G x1 x2 N σ)).1) = 1))))))
set_option maxRecDepth 100000 in
set_option maxHeartbeats 1000000 in
theorem c_X3_readArguments {nx : Nat} (P : Nat → Int32 → Int32 → zS → Prop) (G : Nat → Int32 → Int32 → zS → Int32 × zS) (x1 : Int32) (x2 : Int32) (N : Nat) (σ : zS) (d : Nat) (hd : 40 ≤ d) (hG : zGp d nx G P) (hp : p_X3_readArguments P G x1 x2 N σ) : zCl (d + 1) zall nx zall nx 49 [.inr (3, 12, 2), .inl x1, .inl x2] σ (fun v σ1 => v = some (.inl ((r_X3_readArguments G x1 x2 N σ).1)) ∧ σ1 = (r_X3_readArguments G x1 x2 N σ).2) := by
  refine zmeth (cd := kX3_readArguments) [35] 1000 (Nat.le_of_ble_eq_true rfl) rfl okX3_readArguments (Nat.le_refl _) (Nat.le_of_ble_eq_true rfl) ?_
  refine And.intro (fun (h1 : ¬ x1 = 0) => ?_) (fun (h1 : x1 = 0) => ?_)
  · refine zWp.use ((w_X3_readArguments P G N d hd hG N) x1 x2 0 σ (hp.1 h1)) (And.intro rfl (And.intro rfl (And.intro rfl (And.intro rfl trivial)))) (fun vy σy hy => ?_)
    rw [r_X3_readArguments, if_neg h1]; exact hy
  · refine And.intro (fun (h2 : (σ.1 3 2) = 41) => ?_) (fun (h2 : ¬ (σ.1 3 2) = 41) => ?_)
    · refine zWp.use ((w_X3_readArguments P G N d hd hG N) x1 x2 0 σ ((hp.2 h1).1 h2)) (And.intro rfl (And.intro rfl (And.intro rfl (And.intro rfl trivial)))) (fun vy σy hy => ?_)
      rw [r_X3_readArguments, if_pos h1, if_pos h2]; exact hy
    · refine zCl.use (hG 0 x2 0 (u_X3_readArguments_1 G x1 x2 N σ) ((hp.2 h1).2 h2).1) (Nat.le_refl d) ?_
      rintro _ σz ⟨rfl, hz⟩
      subst σz
      exact And.intro rfl (And.intro rfl (And.intro ((hp.2 h1).2 h2).2 ⟨by rw [r_X3_readArguments, if_pos h1, if_neg h2] <;> rfl, by rw [r_X3_readArguments, if_pos h1, if_neg h2] <;> rfl⟩))
def g_rd (N : Nat) : Nat → Nat → Int32 → Int32 → zS → Int32 × zS
  | 0, _, _, _, σ => (0, σ)
  | n + 1, 0, x, _, σ => r_X3_readFormula (g_rd N n) x N σ
  | n + 1, 1, x, _, σ => r_X3_readSum (g_rd N n) x N σ
  | n + 1, 2, x, _, σ => r_X3_readTerm (g_rd N n) x N σ
  | n + 1, 3, x, _, σ => r_X3_readUnit (g_rd N n) x N σ
  | n + 1, 4, x, y, σ => r_X3_readNamed (g_rd N n) x y N σ
  | n + 1, _, x, y, σ => r_X3_readArguments (g_rd N n) x y N σ
def h_rd (N : Nat) : Nat → Nat → Int32 → Int32 → zS → Prop
  | 0, _, _, _, _ => False
  | n + 1, 0, x, _, σ => p_X3_readFormula (h_rd N n) (g_rd N n) x N σ
  | n + 1, 1, x, _, σ => p_X3_readSum (h_rd N n) (g_rd N n) x N σ
  | n + 1, 2, x, _, σ => p_X3_readTerm (h_rd N n) (g_rd N n) x N σ
  | n + 1, 3, x, _, σ => p_X3_readUnit (h_rd N n) (g_rd N n) x N σ
  | n + 1, 4, x, y, σ => p_X3_readNamed (h_rd N n) (g_rd N n) x y N σ
  | n + 1, _, x, y, σ => p_X3_readArguments (h_rd N n) (g_rd N n) x y N σ
theorem g_rd_sound {nx : Nat} (N : Nat) : ∀ n : Nat, zGp (40 + n) nx (g_rd N n) (h_rd N n) := by
  intro n
  induction n with
  | zero => exact fun i x y σ h => h.elim
  | succ n ih =>
    intro i x y σ h
    match i, h with
    | 0, h => exact c_X3_readFormula _ _ x N σ (40 + n) (Nat.le_add_right 40 n) ih h
    | 1, h => exact c_X3_readSum _ _ x N σ (40 + n) (Nat.le_add_right 40 n) ih h
    | 2, h => exact c_X3_readTerm _ _ x N σ (40 + n) (Nat.le_add_right 40 n) ih h
    | 3, h => exact c_X3_readUnit _ _ x N σ (40 + n) (Nat.le_add_right 40 n) ih h
    | 4, h => exact c_X3_readNamed _ _ x y N σ (40 + n) (Nat.le_add_right 40 n) ih h
    | _ + 5, h => exact c_X3_readArguments _ _ x y N σ (40 + n) (Nat.le_add_right 40 n) ih h
def r_X3_rd (x1 : Int32) (N : Nat) (σ : zS) : Int32 × zS := g_rd N 60 0 x1 0 σ
def p_X3_rd (x1 : Int32) (N : Nat) (σ : zS) : Prop := h_rd N 60 0 x1 0 σ
theorem c_X3_rd {nx : Nat} (x1 : Int32) (N : Nat) (σ : zS) (hp : p_X3_rd x1 N σ) : zCl 100 zall nx zall nx 44 [.inr (3, 12, 2), .inl x1] σ (fun v σ1 => v = some (.inl ((r_X3_rd x1 N σ).1)) ∧ σ1 = (r_X3_rd x1 N σ).2) := g_rd_sound N 60 0 x1 0 σ hp
