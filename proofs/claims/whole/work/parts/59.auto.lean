/-! printed by wip/whole/dec2.py -/
def u_X9_goAgainst_h0_1 (N : Nat) (v1 : Int32) (σ : zS) : zS := zuI σ 489 ((σ.1 468 37) - 1).toNatClampNeg 101
def u_X9_goAgainst_h0_2 (N : Nat) (v1 : Int32) (σ : zS) : zS := zuI (u_X9_goAgainst_h0_1 N v1 σ) 491 (((u_X9_goAgainst_h0_1 N v1 σ).1 468 37) - 1).toNatClampNeg v1
def u_X9_goAgainst_h0_3 (N : Nat) (v1 : Int32) (σ : zS) : zS := s_X9_scan N (u_X9_goAgainst_h0_2 N v1 σ)
def u_X9_goAgainst_h0_4 (N : Nat) (v1 : Int32) (σ : zS) : zS := zuI (u_X9_goAgainst_h0_3 N v1 σ) 468 39 1
def l_X9_goAgainst (N : Nat) : Nat → Int32 → zS → zS
  | 0, _, σ => σ
  | n + 1, v1, σ => if (σ.1 468 25) ≤ 0 then (u_X9_goAgainst_h0_4 N v1 σ) else σ
def q_X9_goAgainst (N : Nat) : Nat → Int32 → zS → Prop
  | 0, _, _ => False
  | n + 1, v1, σ => (σ.1 468 25) ≤ 0 → (vp_in ((σ.1 468 37) - 1) 200 ∧ (vp_in (((u_X9_goAgainst_h0_1 N v1 σ).1 468 37) - 1) 200 ∧ p_X9_scan N (u_X9_goAgainst_h0_2 N v1 σ)))
set_option maxRecDepth 100000 in
set_option maxHeartbeats 1000000 in
theorem w_X9_goAgainst {nx : Nat} (N : Nat) : ∀ n : Nat, (∀ (v1 : Int32) (σ : zS), q_X9_goAgainst N n v1 σ → zWp 4 zall nx 200 (fun v σ1 => v = none ∧ σ1 = l_X9_goAgainst N n v1 σ) zall nx 63 [some (.inr (9, 57, 468)), some (.inl v1)] [] σ) := by
  intro n
  induction n with
  | zero => exact fun _ _ h => h.elim
  | succ n ih =>
    intro v1 σ hp
    rw [q_X9_goAgainst] at hp
    refine zvc_sound (cd := kX9_goAgainst) (cs := [63]) rfl okX9_goAgainst 1000 _ _ 63 (zseek kX9_goAgainst 63) _ _ _ zseek_sub ?_
    refine And.intro (fun (h1 : (σ.1 468 25) ≤ 0) => ?_) (fun (h1 : ¬ (σ.1 468 25) ≤ 0) => ?_)
    · refine And.intro (hp h1).1 ?_
      refine And.intro (hp h1).2.1 ?_
      refine zCl.use (c_X9_scan N (u_X9_goAgainst_h0_2 N v1 σ) (hp h1).2.2) (Nat.le_of_ble_eq_true rfl) ?_
      rintro _ σz ⟨rfl, hz⟩
      subst σz
      exact And.intro rfl (And.intro rfl ⟨rfl, by rw [l_X9_goAgainst, if_pos h1] <;> rfl⟩)
    · exact And.intro rfl (And.intro rfl ⟨rfl, by rw [l_X9_goAgainst, if_neg h1] <;> rfl⟩)
def u_X9_goAgainst_1 (N : Nat) (σ : zS) : zS := s_X9_fail 1 σ
def u_X9_goAgainst_2 (N : Nat) (σ : zS) : zS := s_X9_fail 1 σ
def u_X9_goAgainst_3 (N : Nat) (σ : zS) : zS := s_X9_fail 1 σ
def s_X9_goAgainst (N : Nat) (σ : zS) : zS := if (f_X9_isAt 60 σ) = 0 then (if (f_X9_isAt 62 σ) = 0 then (if (f_X9_isAt 60 σ) = 0 then (if (f_X9_isAt 62 σ) = 0 then (if (f_X9_isAt 61 σ) = 0 then (l_X9_goAgainst N N 11 (u_X9_goAgainst_1 N σ)) else (l_X9_goAgainst N N 11 σ)) else (l_X9_goAgainst N N 11 σ)) else (l_X9_goAgainst N N 11 σ)) else (if (f_X9_isAt 60 σ) = 0 then (if (f_X9_isAt 62 σ) = 0 then (if (f_X9_isAt 61 σ) = 0 then (l_X9_goAgainst N N 10 (u_X9_goAgainst_2 N σ)) else (l_X9_goAgainst N N 10 σ)) else (l_X9_goAgainst N N 10 σ)) else (l_X9_goAgainst N N 10 σ))) else (if (f_X9_isAt 60 σ) = 0 then (if (f_X9_isAt 62 σ) = 0 then (if (f_X9_isAt 61 σ) = 0 then (l_X9_goAgainst N N 9 (u_X9_goAgainst_3 N σ)) else (l_X9_goAgainst N N 9 σ)) else (l_X9_goAgainst N N 9 σ)) else (l_X9_goAgainst N N 9 σ))
def p_X9_goAgainst (N : Nat) (σ : zS) : Prop := p_X9_isAt 60 σ ∧ (((f_X9_isAt 60 σ) = 0 → (p_X9_isAt 62 σ ∧ (((f_X9_isAt 62 σ) = 0 → (p_X9_isAt 60 σ ∧ ((¬ (f_X9_isAt 60 σ) = 0 → q_X9_goAgainst N N 11 σ) ∧ ((f_X9_isAt 60 σ) = 0 → (p_X9_isAt 62 σ ∧ ((¬ (f_X9_isAt 62 σ) = 0 → q_X9_goAgainst N N 11 σ) ∧ ((f_X9_isAt 62 σ) = 0 → (p_X9_isAt 61 σ ∧ ((¬ (f_X9_isAt 61 σ) = 0 → q_X9_goAgainst N N 11 σ) ∧ ((f_X9_isAt 61 σ) = 0 → q_X9_goAgainst N N 11 (u_X9_goAgainst_1 N σ))))))))))) ∧ (¬ (f_X9_isAt 62 σ) = 0 → (p_X9_isAt 60 σ ∧ ((¬ (f_X9_isAt 60 σ) = 0 → q_X9_goAgainst N N 10 σ) ∧ ((f_X9_isAt 60 σ) = 0 → (p_X9_isAt 62 σ ∧ ((¬ (f_X9_isAt 62 σ) = 0 → q_X9_goAgainst N N 10 σ) ∧ ((f_X9_isAt 62 σ) = 0 → (p_X9_isAt 61 σ ∧ ((¬ (f_X9_isAt 61 σ) = 0 → q_X9_goAgainst N N 10 σ) ∧ ((f_X9_isAt 61 σ) = 0 → q_X9_goAgainst N N 10 (u_X9_goAgainst_2 N σ)))))))))))))) ∧ (¬ (f_X9_isAt 60 σ) = 0 → (p_X9_isAt 60 σ ∧ ((¬ (f_X9_isAt 60 σ) = 0 → q_X9_goAgainst N N 9 σ) ∧ ((f_X9_isAt 60 σ) = 0 → (p_X9_isAt 62 σ ∧ ((¬ (f_X9_isAt 62 σ) = 0 → q_X9_goAgainst N N 9 σ) ∧ ((f_X9_isAt 62 σ) = 0 → (p_X9_isAt 61 σ ∧ ((¬ (f_X9_isAt 61 σ) = 0 → q_X9_goAgainst N N 9 σ) ∧ ((f_X9_isAt 61 σ) = 0 → q_X9_goAgainst N N 9 (u_X9_goAgainst_3 N σ))))))))))))
set_option maxRecDepth 100000 in
set_option maxHeartbeats 1000000 in
theorem c_X9_goAgainst {nx : Nat} (N : Nat) (σ : zS) (hp : p_X9_goAgainst N σ) : zCl 4 zall nx zall nx 200 [.inr (9, 57, 468)] σ (fun v σ1 => v = none ∧ σ1 = s_X9_goAgainst N σ) := by
  refine zmeth (cd := kX9_goAgainst) [63] 1000 (Nat.le_of_ble_eq_true rfl) rfl okX9_goAgainst (Nat.le_refl _) (Nat.le_of_ble_eq_true rfl) ?_
  refine zCl.use (c_X9_isAt 60 σ hp.1) (Nat.le_of_ble_eq_true rfl) ?_
  rintro _ σz ⟨rfl, hz⟩
  subst σz
  refine And.intro (fun (h1 : (f_X9_isAt 60 σ) = 0) => ?_) (fun (h1 : ¬ (f_X9_isAt 60 σ) = 0) => ?_)
  · refine zCl.use (c_X9_isAt 62 σ (hp.2.1 h1).1) (Nat.le_of_ble_eq_true rfl) ?_
    rintro _ σz ⟨rfl, hz⟩
    subst σz
    refine And.intro (fun (h2 : (f_X9_isAt 62 σ) = 0) => ?_) (fun (h2 : ¬ (f_X9_isAt 62 σ) = 0) => ?_)
    · refine zCl.use (c_X9_isAt 60 σ ((hp.2.1 h1).2.1 h2).1) (Nat.le_of_ble_eq_true rfl) ?_
      rintro _ σz ⟨rfl, hz⟩
      subst σz
      refine And.intro (fun (h3 : ¬ (f_X9_isAt 60 σ) = 0) => ?_) (fun (h3 : (f_X9_isAt 60 σ) = 0) => ?_)
      · refine zWp.use ((w_X9_goAgainst N N) 11 σ (((hp.2.1 h1).2.1 h2).2.1 h3)) (And.intro rfl (And.intro rfl trivial)) (fun vy σy hy => ?_)
        rw [s_X9_goAgainst, if_pos h1, if_pos h2, if_neg h3]; exact hy
      · refine zCl.use (c_X9_isAt 62 σ (((hp.2.1 h1).2.1 h2).2.2 h3).1) (Nat.le_of_ble_eq_true rfl) ?_
        rintro _ σz ⟨rfl, hz⟩
        subst σz
        refine And.intro (fun (h4 : ¬ (f_X9_isAt 62 σ) = 0) => ?_) (fun (h4 : (f_X9_isAt 62 σ) = 0) => ?_)
        · refine zWp.use ((w_X9_goAgainst N N) 11 σ ((((hp.2.1 h1).2.1 h2).2.2 h3).2.1 h4)) (And.intro rfl (And.intro rfl trivial)) (fun vy σy hy => ?_)
          rw [s_X9_goAgainst, if_pos h1, if_pos h2, if_pos h3, if_neg h4]; exact hy
        · refine zCl.use (c_X9_isAt 61 σ ((((hp.2.1 h1).2.1 h2).2.2 h3).2.2 h4).1) (Nat.le_of_ble_eq_true rfl) ?_
          rintro _ σz ⟨rfl, hz⟩
          subst σz
          refine And.intro (fun (h5 : ¬ (f_X9_isAt 61 σ) = 0) => ?_) (fun (h5 : (f_X9_isAt 61 σ) = 0) => ?_)
          · refine zWp.use ((w_X9_goAgainst N N) 11 σ (((((hp.2.1 h1).2.1 h2).2.2 h3).2.2 h4).2.1 h5)) (And.intro rfl (And.intro rfl trivial)) (fun vy σy hy => ?_)
            rw [s_X9_goAgainst, if_pos h1, if_pos h2, if_pos h3, if_pos h4, if_neg h5]; exact hy
          · refine zCl.use (c_X9_fail 1 σ) (Nat.le_of_ble_eq_true rfl) ?_
            rintro _ σz ⟨rfl, hz⟩
            subst σz
            refine zWp.use ((w_X9_goAgainst N N) 11 (u_X9_goAgainst_1 N σ) (((((hp.2.1 h1).2.1 h2).2.2 h3).2.2 h4).2.2 h5)) (And.intro rfl (And.intro rfl trivial)) (fun vy σy hy => ?_)
            rw [s_X9_goAgainst, if_pos h1, if_pos h2, if_pos h3, if_pos h4, if_pos h5]; exact hy
    · refine zCl.use (c_X9_isAt 60 σ ((hp.2.1 h1).2.2 h2).1) (Nat.le_of_ble_eq_true rfl) ?_
      rintro _ σz ⟨rfl, hz⟩
      subst σz
      refine And.intro (fun (h6 : ¬ (f_X9_isAt 60 σ) = 0) => ?_) (fun (h6 : (f_X9_isAt 60 σ) = 0) => ?_)
      · refine zWp.use ((w_X9_goAgainst N N) 10 σ (((hp.2.1 h1).2.2 h2).2.1 h6)) (And.intro rfl (And.intro rfl trivial)) (fun vy σy hy => ?_)
        rw [s_X9_goAgainst, if_pos h1, if_neg h2, if_neg h6]; exact hy
      · refine zCl.use (c_X9_isAt 62 σ (((hp.2.1 h1).2.2 h2).2.2 h6).1) (Nat.le_of_ble_eq_true rfl) ?_
        rintro _ σz ⟨rfl, hz⟩
        subst σz
        refine And.intro (fun (h7 : ¬ (f_X9_isAt 62 σ) = 0) => ?_) (fun (h7 : (f_X9_isAt 62 σ) = 0) => ?_)
        · refine zWp.use ((w_X9_goAgainst N N) 10 σ ((((hp.2.1 h1).2.2 h2).2.2 h6).2.1 h7)) (And.intro rfl (And.intro rfl trivial)) (fun vy σy hy => ?_)
          rw [s_X9_goAgainst, if_pos h1, if_neg h2, if_pos h6, if_neg h7]; exact hy
        · refine zCl.use (c_X9_isAt 61 σ ((((hp.2.1 h1).2.2 h2).2.2 h6).2.2 h7).1) (Nat.le_of_ble_eq_true rfl) ?_
          rintro _ σz ⟨rfl, hz⟩
          subst σz
          refine And.intro (fun (h8 : ¬ (f_X9_isAt 61 σ) = 0) => ?_) (fun (h8 : (f_X9_isAt 61 σ) = 0) => ?_)
          · refine zWp.use ((w_X9_goAgainst N N) 10 σ (((((hp.2.1 h1).2.2 h2).2.2 h6).2.2 h7).2.1 h8)) (And.intro rfl (And.intro rfl trivial)) (fun vy σy hy => ?_)
            rw [s_X9_goAgainst, if_pos h1, if_neg h2, if_pos h6, if_pos h7, if_neg h8]; exact hy
          · refine zCl.use (c_X9_fail 1 σ) (Nat.le_of_ble_eq_true rfl) ?_
            rintro _ σz ⟨rfl, hz⟩
            subst σz
            refine zWp.use ((w_X9_goAgainst N N) 10 (u_X9_goAgainst_2 N σ) (((((hp.2.1 h1).2.2 h2).2.2 h6).2.2 h7).2.2 h8)) (And.intro rfl (And.intro rfl trivial)) (fun vy σy hy => ?_)
            rw [s_X9_goAgainst, if_pos h1, if_neg h2, if_pos h6, if_pos h7, if_pos h8]; exact hy
  · refine zCl.use (c_X9_isAt 60 σ (hp.2.2 h1).1) (Nat.le_of_ble_eq_true rfl) ?_
    rintro _ σz ⟨rfl, hz⟩
    subst σz
    refine And.intro (fun (h9 : ¬ (f_X9_isAt 60 σ) = 0) => ?_) (fun (h9 : (f_X9_isAt 60 σ) = 0) => ?_)
    · refine zWp.use ((w_X9_goAgainst N N) 9 σ ((hp.2.2 h1).2.1 h9)) (And.intro rfl (And.intro rfl trivial)) (fun vy σy hy => ?_)
      rw [s_X9_goAgainst, if_neg h1, if_neg h9]; exact hy
    · refine zCl.use (c_X9_isAt 62 σ ((hp.2.2 h1).2.2 h9).1) (Nat.le_of_ble_eq_true rfl) ?_
      rintro _ σz ⟨rfl, hz⟩
      subst σz
      refine And.intro (fun (h10 : ¬ (f_X9_isAt 62 σ) = 0) => ?_) (fun (h10 : (f_X9_isAt 62 σ) = 0) => ?_)
      · refine zWp.use ((w_X9_goAgainst N N) 9 σ (((hp.2.2 h1).2.2 h9).2.1 h10)) (And.intro rfl (And.intro rfl trivial)) (fun vy σy hy => ?_)
        rw [s_X9_goAgainst, if_neg h1, if_pos h9, if_neg h10]; exact hy
      · refine zCl.use (c_X9_isAt 61 σ (((hp.2.2 h1).2.2 h9).2.2 h10).1) (Nat.le_of_ble_eq_true rfl) ?_
        rintro _ σz ⟨rfl, hz⟩
        subst σz
        refine And.intro (fun (h11 : ¬ (f_X9_isAt 61 σ) = 0) => ?_) (fun (h11 : (f_X9_isAt 61 σ) = 0) => ?_)
        · refine zWp.use ((w_X9_goAgainst N N) 9 σ ((((hp.2.2 h1).2.2 h9).2.2 h10).2.1 h11)) (And.intro rfl (And.intro rfl trivial)) (fun vy σy hy => ?_)
          rw [s_X9_goAgainst, if_neg h1, if_pos h9, if_pos h10, if_neg h11]; exact hy
        · refine zCl.use (c_X9_fail 1 σ) (Nat.le_of_ble_eq_true rfl) ?_
          rintro _ σz ⟨rfl, hz⟩
          subst σz
          refine zWp.use ((w_X9_goAgainst N N) 9 (u_X9_goAgainst_3 N σ) ((((hp.2.2 h1).2.2 h9).2.2 h10).2.2 h11)) (And.intro rfl (And.intro rfl trivial)) (fun vy σy hy => ?_)
          rw [s_X9_goAgainst, if_neg h1, if_pos h9, if_pos h10, if_pos h11]; exact hy
def u_X9_goThen_1 (x1 : Int32) (N : Nat) (σ : zS) : zS := zuI σ 489 ((σ.1 468 37) - 1).toNatClampNeg 102
def u_X9_goThen_2 (x1 : Int32) (N : Nat) (σ : zS) : zS := zuI (u_X9_goThen_1 x1 N σ) 490 (((u_X9_goThen_1 x1 N σ).1 468 37) - 1).toNatClampNeg ((u_X9_goThen_1 x1 N σ).1 479 (x1).toNatClampNeg)
def u_X9_goThen_3 (x1 : Int32) (N : Nat) (σ : zS) : zS := s_X9_lay x1 ((u_X9_goThen_2 x1 N σ).1 491 (((u_X9_goThen_2 x1 N σ).1 468 37) - 1).toNatClampNeg) 0 (u_X9_goThen_2 x1 N σ)
def u_X9_goThen_4 (x1 : Int32) (N : Nat) (σ : zS) : zS := s_X9_scan N (u_X9_goThen_3 x1 N σ)
def u_X9_goThen_5 (x1 : Int32) (N : Nat) (σ : zS) : zS := zuI (u_X9_goThen_4 x1 N σ) 468 39 0
def u_X9_goThen_6 (x1 : Int32) (N : Nat) (σ : zS) : zS := s_X9_fail 1 σ
def u_X9_goThen_7 (x1 : Int32) (N : Nat) (σ : zS) : zS := zuI (u_X9_goThen_6 x1 N σ) 489 (((u_X9_goThen_6 x1 N σ).1 468 37) - 1).toNatClampNeg 102
def u_X9_goThen_8 (x1 : Int32) (N : Nat) (σ : zS) : zS := zuI (u_X9_goThen_7 x1 N σ) 490 (((u_X9_goThen_7 x1 N σ).1 468 37) - 1).toNatClampNeg ((u_X9_goThen_7 x1 N σ).1 479 (x1).toNatClampNeg)
def u_X9_goThen_9 (x1 : Int32) (N : Nat) (σ : zS) : zS := s_X9_lay x1 ((u_X9_goThen_8 x1 N σ).1 491 (((u_X9_goThen_8 x1 N σ).1 468 37) - 1).toNatClampNeg) 0 (u_X9_goThen_8 x1 N σ)
def u_X9_goThen_10 (x1 : Int32) (N : Nat) (σ : zS) : zS := s_X9_scan N (u_X9_goThen_9 x1 N σ)
def u_X9_goThen_11 (x1 : Int32) (N : Nat) (σ : zS) : zS := zuI (u_X9_goThen_10 x1 N σ) 468 39 0
def s_X9_goThen (x1 : Int32) (N : Nat) (σ : zS) : zS := if (f_X9_isWord 11 σ) = 0 then (if ((u_X9_goThen_6 x1 N σ).1 468 25) ≤ 0 then (u_X9_goThen_11 x1 N σ) else (u_X9_goThen_6 x1 N σ)) else (if (σ.1 468 25) ≤ 0 then (u_X9_goThen_5 x1 N σ) else σ)
def p_X9_goThen (x1 : Int32) (N : Nat) (σ : zS) : Prop := (¬ (f_X9_isWord 11 σ) = 0 → ((σ.1 468 25) ≤ 0 → (vp_in ((σ.1 468 37) - 1) 200 ∧ (vp_in x1 2 ∧ (vp_in (((u_X9_goThen_1 x1 N σ).1 468 37) - 1) 200 ∧ (vp_in (((u_X9_goThen_2 x1 N σ).1 468 37) - 1) 200 ∧ (p_X9_lay x1 ((u_X9_goThen_2 x1 N σ).1 491 (((u_X9_goThen_2 x1 N σ).1 468 37) - 1).toNatClampNeg) 0 (u_X9_goThen_2 x1 N σ) ∧ p_X9_scan N (u_X9_goThen_3 x1 N σ)))))))) ∧ ((f_X9_isWord 11 σ) = 0 → (((u_X9_goThen_6 x1 N σ).1 468 25) ≤ 0 → (vp_in (((u_X9_goThen_6 x1 N σ).1 468 37) - 1) 200 ∧ (vp_in x1 2 ∧ (vp_in (((u_X9_goThen_7 x1 N σ).1 468 37) - 1) 200 ∧ (vp_in (((u_X9_goThen_8 x1 N σ).1 468 37) - 1) 200 ∧ (p_X9_lay x1 ((u_X9_goThen_8 x1 N σ).1 491 (((u_X9_goThen_8 x1 N σ).1 468 37) - 1).toNatClampNeg) 0 (u_X9_goThen_8 x1 N σ) ∧ p_X9_scan N (u_X9_goThen_9 x1 N σ))))))))
set_option maxRecDepth 100000 in
set_option maxHeartbeats 1000000 in
theorem c_X9_goThen {nx : Nat} (x1 : Int32) (N : Nat) (σ : zS) (hp : p_X9_goThen x1 N σ) : zCl 4 zall nx zall nx 201 [.inr (9, 57, 468), .inl x1] σ (fun v σ1 => v = none ∧ σ1 = s_X9_goThen x1 N σ) := by
  refine zmeth (cd := kX9_goThen) [] 1000 (Nat.le_of_ble_eq_true rfl) rfl okX9_goThen (Nat.le_refl _) (Nat.le_of_ble_eq_true rfl) ?_
  refine zCl.use (c_X9_isWord 11 σ) (Nat.le_of_ble_eq_true rfl) ?_
  rintro _ σz ⟨rfl, hz⟩
  subst σz
  refine And.intro (fun (h1 : ¬ (f_X9_isWord 11 σ) = 0) => ?_) (fun (h1 : (f_X9_isWord 11 σ) = 0) => ?_)
  · refine And.intro (fun (h2 : (σ.1 468 25) ≤ 0) => ?_) (fun (h2 : ¬ (σ.1 468 25) ≤ 0) => ?_)
    · refine And.intro ((hp.1 h1) h2).1 ?_
      refine And.intro ((hp.1 h1) h2).2.1 ?_
      refine And.intro ((hp.1 h1) h2).2.2.1 ?_
      refine And.intro ((hp.1 h1) h2).2.2.2.1 ?_
      refine zCl.use (c_X9_lay x1 ((u_X9_goThen_2 x1 N σ).1 491 (((u_X9_goThen_2 x1 N σ).1 468 37) - 1).toNatClampNeg) 0 (u_X9_goThen_2 x1 N σ) ((hp.1 h1) h2).2.2.2.2.1) (Nat.le_of_ble_eq_true rfl) ?_
      rintro _ σz ⟨rfl, hz⟩
      subst σz
      refine zCl.use (c_X9_scan N (u_X9_goThen_3 x1 N σ) ((hp.1 h1) h2).2.2.2.2.2) (Nat.le_of_ble_eq_true rfl) ?_
      rintro _ σz ⟨rfl, hz⟩
      subst σz
      exact And.intro rfl (And.intro rfl ⟨rfl, by rw [s_X9_goThen, if_neg h1, if_pos h2] <;> rfl⟩)
    · exact And.intro rfl (And.intro rfl ⟨rfl, by rw [s_X9_goThen, if_neg h1, if_neg h2] <;> rfl⟩)
  · refine zCl.use (c_X9_fail 1 σ) (Nat.le_of_ble_eq_true rfl) ?_
    rintro _ σz ⟨rfl, hz⟩
    subst σz
    refine And.intro (fun (h3 : ((u_X9_goThen_6 x1 N σ).1 468 25) ≤ 0) => ?_) (fun (h3 : ¬ ((u_X9_goThen_6 x1 N σ).1 468 25) ≤ 0) => ?_)
    · refine And.intro ((hp.2 h1) h3).1 ?_
      refine And.intro ((hp.2 h1) h3).2.1 ?_
      refine And.intro ((hp.2 h1) h3).2.2.1 ?_
      refine And.intro ((hp.2 h1) h3).2.2.2.1 ?_
      refine zCl.use (c_X9_lay x1 ((u_X9_goThen_8 x1 N σ).1 491 (((u_X9_goThen_8 x1 N σ).1 468 37) - 1).toNatClampNeg) 0 (u_X9_goThen_8 x1 N σ) ((hp.2 h1) h3).2.2.2.2.1) (Nat.le_of_ble_eq_true rfl) ?_
      rintro _ σz ⟨rfl, hz⟩
      subst σz
      refine zCl.use (c_X9_scan N (u_X9_goThen_9 x1 N σ) ((hp.2 h1) h3).2.2.2.2.2) (Nat.le_of_ble_eq_true rfl) ?_
      rintro _ σz ⟨rfl, hz⟩
      subst σz
      exact And.intro rfl (And.intro rfl ⟨rfl, by rw [s_X9_goThen, if_pos h1, if_pos h3] <;> rfl⟩)
    · exact And.intro rfl (And.intro rfl ⟨rfl, by rw [s_X9_goThen, if_pos h1, if_neg h3] <;> rfl⟩)
def u_X9_goElse_1 (x1 : Int32) (N : Nat) (σ : zS) : zS := zuI σ 489 ((σ.1 468 37) - 1).toNatClampNeg 103
def u_X9_goElse_2 (x1 : Int32) (N : Nat) (σ : zS) : zS := zuI (u_X9_goElse_1 x1 N σ) 490 (((u_X9_goElse_1 x1 N σ).1 468 37) - 1).toNatClampNeg ((u_X9_goElse_1 x1 N σ).1 479 (x1).toNatClampNeg)
def u_X9_goElse_3 (x1 : Int32) (N : Nat) (σ : zS) : zS := s_X9_lay x1 12 0 (u_X9_goElse_2 x1 N σ)
def u_X9_goElse_4 (x1 : Int32) (N : Nat) (σ : zS) : zS := zuI (u_X9_goElse_3 x1 N σ) 484 (((800 * x1) + (2 * (σ.1 490 ((σ.1 468 37) - 1).toNatClampNeg))) + 1).toNatClampNeg ((u_X9_goElse_3 x1 N σ).1 479 (x1).toNatClampNeg)
def u_X9_goElse_5 (x1 : Int32) (N : Nat) (σ : zS) : zS := s_X9_scan N (u_X9_goElse_4 x1 N σ)
def u_X9_goElse_6 (x1 : Int32) (N : Nat) (σ : zS) : zS := zuI (u_X9_goElse_5 x1 N σ) 468 39 0
def u_X9_goElse_7 (x1 : Int32) (N : Nat) (σ : zS) : zS := s_X9_fail 1 σ
def u_X9_goElse_8 (x1 : Int32) (N : Nat) (σ : zS) : zS := zuI (u_X9_goElse_7 x1 N σ) 489 (((u_X9_goElse_7 x1 N σ).1 468 37) - 1).toNatClampNeg 103
def u_X9_goElse_9 (x1 : Int32) (N : Nat) (σ : zS) : zS := zuI (u_X9_goElse_8 x1 N σ) 490 (((u_X9_goElse_8 x1 N σ).1 468 37) - 1).toNatClampNeg ((u_X9_goElse_8 x1 N σ).1 479 (x1).toNatClampNeg)
def u_X9_goElse_10 (x1 : Int32) (N : Nat) (σ : zS) : zS := s_X9_lay x1 12 0 (u_X9_goElse_9 x1 N σ)
def u_X9_goElse_11 (x1 : Int32) (N : Nat) (σ : zS) : zS := zuI (u_X9_goElse_10 x1 N σ) 484 (((800 * x1) + (2 * ((u_X9_goElse_7 x1 N σ).1 490 (((u_X9_goElse_7 x1 N σ).1 468 37) - 1).toNatClampNeg))) + 1).toNatClampNeg ((u_X9_goElse_10 x1 N σ).1 479 (x1).toNatClampNeg)
def u_X9_goElse_12 (x1 : Int32) (N : Nat) (σ : zS) : zS := s_X9_scan N (u_X9_goElse_11 x1 N σ)
def u_X9_goElse_13 (x1 : Int32) (N : Nat) (σ : zS) : zS := zuI (u_X9_goElse_12 x1 N σ) 468 39 0
def s_X9_goElse (x1 : Int32) (N : Nat) (σ : zS) : zS := if (f_X9_isWord 12 σ) = 0 then (if ((u_X9_goElse_7 x1 N σ).1 468 25) ≤ 0 then (u_X9_goElse_13 x1 N σ) else (u_X9_goElse_7 x1 N σ)) else (if (σ.1 468 25) ≤ 0 then (u_X9_goElse_6 x1 N σ) else σ)
def p_X9_goElse (x1 : Int32) (N : Nat) (σ : zS) : Prop := (¬ (f_X9_isWord 12 σ) = 0 → ((σ.1 468 25) ≤ 0 → (vp_in ((σ.1 468 37) - 1) 200 ∧ (vp_in x1 2 ∧ (vp_in (((u_X9_goElse_1 x1 N σ).1 468 37) - 1) 200 ∧ (p_X9_lay x1 12 0 (u_X9_goElse_2 x1 N σ) ∧ (vp_in (((800 * x1) + (2 * (σ.1 490 ((σ.1 468 37) - 1).toNatClampNeg))) + 1) 1600 ∧ p_X9_scan N (u_X9_goElse_4 x1 N σ)))))))) ∧ ((f_X9_isWord 12 σ) = 0 → (((u_X9_goElse_7 x1 N σ).1 468 25) ≤ 0 → (vp_in (((u_X9_goElse_7 x1 N σ).1 468 37) - 1) 200 ∧ (vp_in x1 2 ∧ (vp_in (((u_X9_goElse_8 x1 N σ).1 468 37) - 1) 200 ∧ (p_X9_lay x1 12 0 (u_X9_goElse_9 x1 N σ) ∧ (vp_in (((800 * x1) + (2 * ((u_X9_goElse_7 x1 N σ).1 490 (((u_X9_goElse_7 x1 N σ).1 468 37) - 1).toNatClampNeg))) + 1) 1600 ∧ p_X9_scan N (u_X9_goElse_11 x1 N σ))))))))
set_option maxRecDepth 100000 in
set_option maxHeartbeats 1000000 in
theorem c_X9_goElse {nx : Nat} (x1 : Int32) (N : Nat) (σ : zS) (hp : p_X9_goElse x1 N σ) : zCl 4 zall nx zall nx 202 [.inr (9, 57, 468), .inl x1] σ (fun v σ1 => v = none ∧ σ1 = s_X9_goElse x1 N σ) := by
  refine zmeth (cd := kX9_goElse) [] 1000 (Nat.le_of_ble_eq_true rfl) rfl okX9_goElse (Nat.le_refl _) (Nat.le_of_ble_eq_true rfl) ?_
  refine zCl.use (c_X9_isWord 12 σ) (Nat.le_of_ble_eq_true rfl) ?_
  rintro _ σz ⟨rfl, hz⟩
  subst σz
  refine And.intro (fun (h1 : ¬ (f_X9_isWord 12 σ) = 0) => ?_) (fun (h1 : (f_X9_isWord 12 σ) = 0) => ?_)
  · refine And.intro (fun (h2 : (σ.1 468 25) ≤ 0) => ?_) (fun (h2 : ¬ (σ.1 468 25) ≤ 0) => ?_)
    · refine And.intro ((hp.1 h1) h2).1 ?_
      refine And.intro ((hp.1 h1) h2).1 ?_
      refine And.intro ((hp.1 h1) h2).2.1 ?_
      refine And.intro ((hp.1 h1) h2).2.2.1 ?_
      refine zCl.use (c_X9_lay x1 12 0 (u_X9_goElse_2 x1 N σ) ((hp.1 h1) h2).2.2.2.1) (Nat.le_of_ble_eq_true rfl) ?_
      rintro _ σz ⟨rfl, hz⟩
      subst σz
      refine And.intro ((hp.1 h1) h2).2.1 ?_
      refine And.intro ((hp.1 h1) h2).2.2.2.2.1 ?_
      refine zCl.use (c_X9_scan N (u_X9_goElse_4 x1 N σ) ((hp.1 h1) h2).2.2.2.2.2) (Nat.le_of_ble_eq_true rfl) ?_
      rintro _ σz ⟨rfl, hz⟩
      subst σz
      exact And.intro rfl (And.intro rfl ⟨rfl, by rw [s_X9_goElse, if_neg h1, if_pos h2] <;> rfl⟩)
    · exact And.intro rfl (And.intro rfl ⟨rfl, by rw [s_X9_goElse, if_neg h1, if_neg h2] <;> rfl⟩)
  · refine zCl.use (c_X9_fail 1 σ) (Nat.le_of_ble_eq_true rfl) ?_
    rintro _ σz ⟨rfl, hz⟩
    subst σz
    refine And.intro (fun (h3 : ((u_X9_goElse_7 x1 N σ).1 468 25) ≤ 0) => ?_) (fun (h3 : ¬ ((u_X9_goElse_7 x1 N σ).1 468 25) ≤ 0) => ?_)
    · refine And.intro ((hp.2 h1) h3).1 ?_
      refine And.intro ((hp.2 h1) h3).1 ?_
      refine And.intro ((hp.2 h1) h3).2.1 ?_
      refine And.intro ((hp.2 h1) h3).2.2.1 ?_
      refine zCl.use (c_X9_lay x1 12 0 (u_X9_goElse_9 x1 N σ) ((hp.2 h1) h3).2.2.2.1) (Nat.le_of_ble_eq_true rfl) ?_
      rintro _ σz ⟨rfl, hz⟩
      subst σz
      refine And.intro ((hp.2 h1) h3).2.1 ?_
      refine And.intro ((hp.2 h1) h3).2.2.2.2.1 ?_
      refine zCl.use (c_X9_scan N (u_X9_goElse_11 x1 N σ) ((hp.2 h1) h3).2.2.2.2.2) (Nat.le_of_ble_eq_true rfl) ?_
      rintro _ σz ⟨rfl, hz⟩
      subst σz
      exact And.intro rfl (And.intro rfl ⟨rfl, by rw [s_X9_goElse, if_pos h1, if_pos h3] <;> rfl⟩)
    · exact And.intro rfl (And.intro rfl ⟨rfl, by rw [s_X9_goElse, if_pos h1, if_neg h3] <;> rfl⟩)
def f_J0_indexOf_7cf53 (t0 : Nat) (x1 : Int32) (x2 : Int32) (N : Nat) (σ : zS) : Int32 := f_J1_indexOf_4cfef t0 x1 x2 (f_J0_length_8abf5 t0) N σ
def p_J0_indexOf_7cf53 (t0 : Nat) (x1 : Int32) (x2 : Int32) (N : Nat) (σ : zS) : Prop := p_J1_indexOf_4cfef t0 x1 x2 (f_J0_length_8abf5 t0) N σ
set_option maxRecDepth 100000 in
set_option maxHeartbeats 1000000 in
theorem c_J0_indexOf_7cf53 {cp : Nat → Bool} {nx : Nat} (t0 : Nat) (x1 : Int32) (x2 : Int32) (N : Nat) (σ : zS) (hp : p_J0_indexOf_7cf53 t0 x1 x2 N σ) : zCl 3 cp nx cp nx 302 [.inr (30, t0, (1000010 + t0)), .inl x1, .inl x2] σ (fun v σ1 => v = some (.inl (f_J0_indexOf_7cf53 t0 x1 x2 N σ)) ∧ σ1 = σ) := by
  refine zmeth (cd := kJ0_indexOf_7cf53) [] 1000 (Nat.le_of_ble_eq_true rfl) rfl okJ0_indexOf_7cf53 (Nat.le_refl _) (Nat.le_of_ble_eq_true rfl) ?_
  refine zCl.use (c_J0_isLatin1_aae02 t0 σ) (Nat.le_of_ble_eq_true rfl) ?_
  rintro _ σz ⟨rfl, hz⟩
  subst σz
  refine And.intro (fun (z : (1 : Int32) = 0) => absurd z (by decide)) (fun _ => ?_)
  refine zCl.use (c_J0_length_8abf5 t0 σ) (Nat.le_of_ble_eq_true rfl) ?_
  rintro _ σz ⟨rfl, hz⟩
  subst σz
  refine zCl.use (c_J1_indexOf_4cfef t0 x1 x2 (f_J0_length_8abf5 t0) N σ hp) (Nat.le_of_ble_eq_true rfl) ?_
  rintro _ σz ⟨rfl, hz⟩
  subst σz
  exact And.intro rfl (And.intro rfl ⟨by rw [f_J0_indexOf_7cf53] <;> rfl, rfl⟩)
def u_X0_reach_h0_1 (o : Nat) (q1 : Nat) (N : Nat) (v2 : Int32) (σ : zS) : zS := zuI σ o 1 ((σ.1 o 1) + 1)
def u_X0_reach_h0_2 (o : Nat) (q1 : Nat) (N : Nat) (v2 : Int32) (σ : zS) : zS := s_X0_compute o (f_X8_at 400 (q1 + 5) (σ.1 o 1) σ) (f_X8_at 400 (q1 + 6) (σ.1 o 1) σ) (u_X0_reach_h0_1 o q1 N v2 σ)
def l_X0_reach (o : Nat) (q1 : Nat) (N : Nat) : Nat → Int32 → zS → Int32 × zS
  | 0, _, σ => (0, σ)
  | n + 1, v2, σ => if 400 ≤ v2 then (13, σ) else (if (f_X8_at 400 (q1 + 5) (σ.1 o 1) σ) = 12 then (f_X8_at 400 (q1 + 5) (σ.1 o 1) σ, σ) else (if (f_X8_at 400 (q1 + 5) (σ.1 o 1) σ) = 13 then (f_X8_at 400 (q1 + 5) (σ.1 o 1) σ, σ) else (l_X0_reach o q1 N n (v2 + 1) (u_X0_reach_h0_2 o q1 N v2 σ))))
def q_X0_reach (o : Nat) (q1 : Nat) (N : Nat) : Nat → Int32 → zS → Prop
  | 0, _, _ => False
  | n + 1, v2, σ => ¬ 400 ≤ v2 → (p_X8_at 400 (q1 + 5) (σ.1 o 1) σ ∧ (¬ (f_X8_at 400 (q1 + 5) (σ.1 o 1) σ) = 12 → (¬ (f_X8_at 400 (q1 + 5) (σ.1 o 1) σ) = 13 → (p_X8_at 400 (q1 + 6) (σ.1 o 1) σ ∧ (p_X0_compute o (f_X8_at 400 (q1 + 5) (σ.1 o 1) σ) (f_X8_at 400 (q1 + 6) (σ.1 o 1) σ) (u_X0_reach_h0_1 o q1 N v2 σ) ∧ q_X0_reach o q1 N n (v2 + 1) (u_X0_reach_h0_2 o q1 N v2 σ))))))
set_option maxRecDepth 100000 in
set_option maxHeartbeats 1000000 in
theorem w_X0_reach {nx : Nat} (o : Nat) (q1 : Nat) (N : Nat) : ∀ n : Nat, (∀ (v2 : Int32) (σ : zS), q_X0_reach o q1 N n v2 σ → zWp 4 zall nx 6 (fun v σ1 => v = some (.inl ((l_X0_reach o q1 N n v2 σ).1)) ∧ σ1 = (l_X0_reach o q1 N n v2 σ).2) zall nx 36 [some (.inr (0, 9, o)), some (.inr (2, 16, q1)), some (.inl v2), none, none] [] σ) := by
  intro n
  induction n with
  | zero => exact fun _ _ h => h.elim
  | succ n ih =>
    intro v2 σ hp
    rw [q_X0_reach] at hp
    refine zvc_sound (cd := kX0_reach) (cs := [36]) rfl okX0_reach 1000 _ _ 36 (zseek kX0_reach 36) _ _ _ zseek_sub ?_
    refine And.intro (fun (h1 : 400 ≤ v2) => ?_) (fun (h1 : ¬ 400 ≤ v2) => ?_)
    · exact And.intro rfl (And.intro rfl ⟨by rw [l_X0_reach, if_pos h1] <;> rfl, by rw [l_X0_reach, if_pos h1] <;> rfl⟩)
    · refine zCl.use (c_X8_at 400 (q1 + 5) (σ.1 o 1) σ (hp h1).1) (Nat.le_of_ble_eq_true rfl) ?_
      rintro _ σz ⟨rfl, hz⟩
      subst σz
      refine And.intro (fun (h2 : (f_X8_at 400 (q1 + 5) (σ.1 o 1) σ) = 12) => ?_) (fun (h2 : ¬ (f_X8_at 400 (q1 + 5) (σ.1 o 1) σ) = 12) => ?_)
      · exact And.intro rfl (And.intro rfl ⟨by rw [l_X0_reach, if_neg h1, if_pos h2] <;> rfl, by rw [l_X0_reach, if_neg h1, if_pos h2] <;> rfl⟩)
      · refine And.intro (fun (h3 : ¬ (f_X8_at 400 (q1 + 5) (σ.1 o 1) σ) = 13) => ?_) (fun (h3 : (f_X8_at 400 (q1 + 5) (σ.1 o 1) σ) = 13) => ?_)
        · refine zCl.use (c_X8_at 400 (q1 + 6) (σ.1 o 1) σ (((hp h1).2 h2) h3).1) (Nat.le_of_ble_eq_true rfl) ?_
          rintro _ σz ⟨rfl, hz⟩
          subst σz
          refine zCl.use (c_X0_compute o (f_X8_at 400 (q1 + 5) (σ.1 o 1) σ) (f_X8_at 400 (q1 + 6) (σ.1 o 1) σ) (u_X0_reach_h0_1 o q1 N v2 σ) (((hp h1).2 h2) h3).2.1) (Nat.le_of_ble_eq_true rfl) ?_
          rintro _ σz ⟨rfl, hz⟩
          subst σz
          refine zWp.use (ih (v2 + 1) (u_X0_reach_h0_2 o q1 N v2 σ) (((hp h1).2 h2) h3).2.2) (And.intro rfl (And.intro rfl (And.intro rfl trivial))) (fun vy σy hy => ?_)
          rw [l_X0_reach, if_neg h1, if_neg h2, if_neg h3]; exact hy
        · exact And.intro rfl (And.intro rfl ⟨by rw [l_X0_reach, if_neg h1, if_neg h2, if_pos h3] <;> rfl, by rw [l_X0_reach, if_neg h1, if_neg h2, if_pos h3] <;> rfl⟩)
def r_X0_reach (o : Nat) (q1 : Nat) (N : Nat) (σ : zS) : Int32 × zS := if (zlay (σ.2 o 4 - 1)).1 = 20 then (if (Int32.ofNat ((zlay (σ.2 o 4 - 1)).2)) ≤ 0 then (l_X0_reach o q1 N N 0 σ) else (if (zlay (σ.2 o 4 - 1)).1 = 20 then (if (f_X8_at ((zlay (σ.2 o 4 - 1)).2) (σ.2 o 4 - 1) (σ.1 o 5) σ) ≤ (σ.1 o 0) then (13, σ) else (12, σ)) else (if (f_X8_at26 ((zlay (σ.2 o 4 - 1)).2) (σ.2 o 4 - 1) (σ.1 o 5) σ) ≤ (σ.1 o 0) then (13, σ) else (12, σ)))) else (if (Int32.ofNat ((zlay (σ.2 o 4 - 1)).2)) ≤ 0 then (l_X0_reach o q1 N N 0 σ) else (if (zlay (σ.2 o 4 - 1)).1 = 20 then (if (f_X8_at ((zlay (σ.2 o 4 - 1)).2) (σ.2 o 4 - 1) (σ.1 o 5) σ) ≤ (σ.1 o 0) then (13, σ) else (12, σ)) else (if (f_X8_at26 ((zlay (σ.2 o 4 - 1)).2) (σ.2 o 4 - 1) (σ.1 o 5) σ) ≤ (σ.1 o 0) then (13, σ) else (12, σ))))
def p_X0_reach (o : Nat) (q1 : Nat) (N : Nat) (σ : zS) : Prop := (σ.2 o 4 ≠ 0) ∧ (((zlay (σ.2 o 4 - 1)).1 = 20 → (((Int32.ofNat ((zlay (σ.2 o 4 - 1)).2)) ≤ 0 → q_X0_reach o q1 N N 0 σ) ∧ (¬ (Int32.ofNat ((zlay (σ.2 o 4 - 1)).2)) ≤ 0 → ((σ.2 o 4 ≠ 0) ∧ (((zlay (σ.2 o 4 - 1)).1 = 20 → p_X8_at ((zlay (σ.2 o 4 - 1)).2) (σ.2 o 4 - 1) (σ.1 o 5) σ) ∧ (¬ (zlay (σ.2 o 4 - 1)).1 = 20 → ((zlay (σ.2 o 4 - 1)).1 = 26 ∧ p_X8_at26 ((zlay (σ.2 o 4 - 1)).2) (σ.2 o 4 - 1) (σ.1 o 5) σ))))))) ∧ (¬ (zlay (σ.2 o 4 - 1)).1 = 20 → ((zlay (σ.2 o 4 - 1)).1 = 26 ∧ (((Int32.ofNat ((zlay (σ.2 o 4 - 1)).2)) ≤ 0 → q_X0_reach o q1 N N 0 σ) ∧ (¬ (Int32.ofNat ((zlay (σ.2 o 4 - 1)).2)) ≤ 0 → ((σ.2 o 4 ≠ 0) ∧ (((zlay (σ.2 o 4 - 1)).1 = 20 → p_X8_at ((zlay (σ.2 o 4 - 1)).2) (σ.2 o 4 - 1) (σ.1 o 5) σ) ∧ (¬ (zlay (σ.2 o 4 - 1)).1 = 20 → ((zlay (σ.2 o 4 - 1)).1 = 26 ∧ p_X8_at26 ((zlay (σ.2 o 4 - 1)).2) (σ.2 o 4 - 1) (σ.1 o 5) σ)))))))))
set_option maxRecDepth 100000 in
set_option maxHeartbeats 1000000 in
theorem c_X0_reach {nx : Nat} (o : Nat) (q1 : Nat) (N : Nat) (σ : zS) (hp : p_X0_reach o q1 N σ) : zCl 4 zall nx zall nx 6 [.inr (0, 9, o), .inr (2, 16, q1)] σ (fun v σ1 => v = some (.inl ((r_X0_reach o q1 N σ).1)) ∧ σ1 = (r_X0_reach o q1 N σ).2) := by
  refine zmeth (cd := kX0_reach) [36] 1000 (Nat.le_of_ble_eq_true rfl) rfl okX0_reach (Nat.le_refl _) (Nat.le_of_ble_eq_true rfl) ?_
  refine And.intro hp.1 (fun q901 (e1 : σ.2 o 4 = q901 + 1) => ?_)
  have g1 : q901 = (σ.2 o 4 - 1) := by omega
  subst g1
  by_cases h1 : (zlay (σ.2 o 4 - 1)).1 = 20
  · rw [h1]
    refine And.intro (fun (h2 : (Int32.ofNat ((zlay (σ.2 o 4 - 1)).2)) ≤ 0) => ?_) (fun (h2 : ¬ (Int32.ofNat ((zlay (σ.2 o 4 - 1)).2)) ≤ 0) => ?_)
    · refine zWp.use ((w_X0_reach o q1 N N) 0 σ ((hp.2.1 h1).1 h2)) (And.intro rfl (And.intro rfl (And.intro rfl trivial))) (fun vy σy hy => ?_)
      rw [r_X0_reach, if_pos h1, if_pos h2]; exact hy
    · refine And.intro ((hp.2.1 h1).2 h2).1 (fun q903 (e3 : σ.2 o 4 = q903 + 1) => ?_)
      have g3 : q903 = (σ.2 o 4 - 1) := by omega
      subst g3
      by_cases h3 : (zlay (σ.2 o 4 - 1)).1 = 20
      · rw [h3]
        refine zCl.use (c_X8_at ((zlay (σ.2 o 4 - 1)).2) (σ.2 o 4 - 1) (σ.1 o 5) σ (((hp.2.1 h1).2 h2).2.1 h3)) (Nat.le_of_ble_eq_true rfl) ?_
        rintro _ σz ⟨rfl, hz⟩
        subst σz
        refine And.intro (fun (h4 : (f_X8_at ((zlay (σ.2 o 4 - 1)).2) (σ.2 o 4 - 1) (σ.1 o 5) σ) ≤ (σ.1 o 0)) => ?_) (fun (h4 : ¬ (f_X8_at ((zlay (σ.2 o 4 - 1)).2) (σ.2 o 4 - 1) (σ.1 o 5) σ) ≤ (σ.1 o 0)) => ?_)
        · exact And.intro rfl (And.intro rfl ⟨by rw [r_X0_reach, if_pos h1, if_neg h2, if_pos h3, if_pos h4] <;> rfl, by rw [r_X0_reach, if_pos h1, if_neg h2, if_pos h3, if_pos h4] <;> rfl⟩)
        · exact And.intro rfl (And.intro rfl ⟨by rw [r_X0_reach, if_pos h1, if_neg h2, if_pos h3, if_neg h4] <;> rfl, by rw [r_X0_reach, if_pos h1, if_neg h2, if_pos h3, if_neg h4] <;> rfl⟩)
      · rw [(((hp.2.1 h1).2 h2).2.2 h3).1]
        refine zCl.use (c_X8_at26 ((zlay (σ.2 o 4 - 1)).2) (σ.2 o 4 - 1) (σ.1 o 5) σ (((hp.2.1 h1).2 h2).2.2 h3).2) (Nat.le_of_ble_eq_true rfl) ?_
        rintro _ σz ⟨rfl, hz⟩
        subst σz
        refine And.intro (fun (h5 : (f_X8_at26 ((zlay (σ.2 o 4 - 1)).2) (σ.2 o 4 - 1) (σ.1 o 5) σ) ≤ (σ.1 o 0)) => ?_) (fun (h5 : ¬ (f_X8_at26 ((zlay (σ.2 o 4 - 1)).2) (σ.2 o 4 - 1) (σ.1 o 5) σ) ≤ (σ.1 o 0)) => ?_)
        · exact And.intro rfl (And.intro rfl ⟨by rw [r_X0_reach, if_pos h1, if_neg h2, if_neg h3, if_pos h5] <;> rfl, by rw [r_X0_reach, if_pos h1, if_neg h2, if_neg h3, if_pos h5] <;> rfl⟩)
        · exact And.intro rfl (And.intro rfl ⟨by rw [r_X0_reach, if_pos h1, if_neg h2, if_neg h3, if_neg h5] <;> rfl, by rw [r_X0_reach, if_pos h1, if_neg h2, if_neg h3, if_neg h5] <;> rfl⟩)
  · rw [(hp.2.2 h1).1]
    refine And.intro (fun (h6 : (Int32.ofNat ((zlay (σ.2 o 4 - 1)).2)) ≤ 0) => ?_) (fun (h6 : ¬ (Int32.ofNat ((zlay (σ.2 o 4 - 1)).2)) ≤ 0) => ?_)
    · refine zWp.use ((w_X0_reach o q1 N N) 0 σ ((hp.2.2 h1).2.1 h6)) (And.intro rfl (And.intro rfl (And.intro rfl trivial))) (fun vy σy hy => ?_)
      rw [r_X0_reach, if_neg h1, if_pos h6]; exact hy
    · refine And.intro ((hp.2.2 h1).2.2 h6).1 (fun q907 (e7 : σ.2 o 4 = q907 + 1) => ?_)
      have g7 : q907 = (σ.2 o 4 - 1) := by omega
      subst g7
      by_cases h7 : (zlay (σ.2 o 4 - 1)).1 = 20
      · rw [h7]
        refine zCl.use (c_X8_at ((zlay (σ.2 o 4 - 1)).2) (σ.2 o 4 - 1) (σ.1 o 5) σ (((hp.2.2 h1).2.2 h6).2.1 h7)) (Nat.le_of_ble_eq_true rfl) ?_
        rintro _ σz ⟨rfl, hz⟩
        subst σz
        refine And.intro (fun (h8 : (f_X8_at ((zlay (σ.2 o 4 - 1)).2) (σ.2 o 4 - 1) (σ.1 o 5) σ) ≤ (σ.1 o 0)) => ?_) (fun (h8 : ¬ (f_X8_at ((zlay (σ.2 o 4 - 1)).2) (σ.2 o 4 - 1) (σ.1 o 5) σ) ≤ (σ.1 o 0)) => ?_)
        · exact And.intro rfl (And.intro rfl ⟨by rw [r_X0_reach, if_neg h1, if_neg h6, if_pos h7, if_pos h8] <;> rfl, by rw [r_X0_reach, if_neg h1, if_neg h6, if_pos h7, if_pos h8] <;> rfl⟩)
        · exact And.intro rfl (And.intro rfl ⟨by rw [r_X0_reach, if_neg h1, if_neg h6, if_pos h7, if_neg h8] <;> rfl, by rw [r_X0_reach, if_neg h1, if_neg h6, if_pos h7, if_neg h8] <;> rfl⟩)
      · rw [(((hp.2.2 h1).2.2 h6).2.2 h7).1]
        refine zCl.use (c_X8_at26 ((zlay (σ.2 o 4 - 1)).2) (σ.2 o 4 - 1) (σ.1 o 5) σ (((hp.2.2 h1).2.2 h6).2.2 h7).2) (Nat.le_of_ble_eq_true rfl) ?_
        rintro _ σz ⟨rfl, hz⟩
        subst σz
        refine And.intro (fun (h9 : (f_X8_at26 ((zlay (σ.2 o 4 - 1)).2) (σ.2 o 4 - 1) (σ.1 o 5) σ) ≤ (σ.1 o 0)) => ?_) (fun (h9 : ¬ (f_X8_at26 ((zlay (σ.2 o 4 - 1)).2) (σ.2 o 4 - 1) (σ.1 o 5) σ) ≤ (σ.1 o 0)) => ?_)
        · exact And.intro rfl (And.intro rfl ⟨by rw [r_X0_reach, if_neg h1, if_neg h6, if_neg h7, if_pos h9] <;> rfl, by rw [r_X0_reach, if_neg h1, if_neg h6, if_neg h7, if_pos h9] <;> rfl⟩)
        · exact And.intro rfl (And.intro rfl ⟨by rw [r_X0_reach, if_neg h1, if_neg h6, if_neg h7, if_neg h9] <;> rfl, by rw [r_X0_reach, if_neg h1, if_neg h6, if_neg h7, if_neg h9] <;> rfl⟩)
def u_X1_startAnew_1 (q1 : Nat) (N : Nat) (σ : zS) : zS := zuI σ 30 1 0
def u_X1_startAnew_2 (q1 : Nat) (N : Nat) (σ : zS) : zS := zuI (u_X1_startAnew_1 q1 N σ) 30 2 0
def u_X1_startAnew_3 (q1 : Nat) (N : Nat) (σ : zS) : zS := s_X4_startAnew (f_X1_now (u_X1_startAnew_2 q1 N σ)) q1 N (u_X1_startAnew_2 q1 N σ)
def s_X1_startAnew (q1 : Nat) (N : Nat) (σ : zS) : zS := (u_X1_startAnew_3 q1 N σ)
def p_X1_startAnew (q1 : Nat) (N : Nat) (σ : zS) : Prop := p_X1_now (u_X1_startAnew_2 q1 N σ) ∧ p_X4_startAnew (f_X1_now (u_X1_startAnew_2 q1 N σ)) q1 N (u_X1_startAnew_2 q1 N σ)
set_option maxRecDepth 100000 in
set_option maxHeartbeats 1000000 in
theorem c_X1_startAnew {nx : Nat} (q1 : Nat) (N : Nat) (σ : zS) (hp : p_X1_startAnew q1 N σ) : zCl 4 zall nx zall nx 15 [.inr (1, 3, 30), .inr (2, 16, q1)] σ (fun v σ1 => v = none ∧ σ1 = s_X1_startAnew q1 N σ) := by
  refine zmeth (cd := kX1_startAnew) [] 1000 (Nat.le_of_ble_eq_true rfl) rfl okX1_startAnew (Nat.le_refl _) (Nat.le_of_ble_eq_true rfl) ?_
  refine zCl.use (c_X1_now (u_X1_startAnew_2 q1 N σ) hp.1) (Nat.le_of_ble_eq_true rfl) ?_
  rintro _ σz ⟨rfl, hz⟩
  subst σz
  refine zCl.use (c_X4_startAnew (f_X1_now (u_X1_startAnew_2 q1 N σ)) q1 N (u_X1_startAnew_2 q1 N σ) hp.2) (Nat.le_of_ble_eq_true rfl) ?_
  rintro _ σz ⟨rfl, hz⟩
  subst σz
  exact And.intro rfl (And.intro rfl ⟨rfl, by rw [s_X1_startAnew] <;> rfl⟩)
def u_X4_beginTask_1 (o : Nat) (q1 : Nat) (x2 : Int32) (N : Nat) (σ : zS) : zS := s_X4_makeRoom o x2 (f_X4_behind o (σ.1 o 12) σ) N σ
def u_X4_beginTask_2 (o : Nat) (q1 : Nat) (x2 : Int32) (N : Nat) (σ : zS) : zS := s_X0_begin ((f_X4_taskAt o x2 σ) + 1) q1 (f_X8_at 4 (q1 + 3) x2 (u_X4_beginTask_1 o q1 x2 N σ)) 16 (q1 + 4) (x2 * 4) N (u_X4_beginTask_1 o q1 x2 N σ)
def u_X4_beginTask_3 (o : Nat) (q1 : Nat) (x2 : Int32) (N : Nat) (σ : zS) : zS := zuI (u_X4_beginTask_2 o q1 x2 N σ) (f_X4_taskAt o x2 σ) 1 1
def u_X4_beginTask_4 (o : Nat) (q1 : Nat) (x2 : Int32) (N : Nat) (σ : zS) : zS := zuI (u_X4_beginTask_3 o q1 x2 N σ) (f_X4_taskAt o x2 σ) 3 (f_X4_behind o (σ.1 o 12) σ)
def u_X4_beginTask_5 (o : Nat) (q1 : Nat) (x2 : Int32) (N : Nat) (σ : zS) : zS := s_X4_moveIn o x2 1 (f_X4_behind o (σ.1 o 12) σ) (u_X4_beginTask_4 o q1 x2 N σ)
def u_X4_beginTask_6 (o : Nat) (q1 : Nat) (x2 : Int32) (N : Nat) (σ : zS) : zS := s_X4_makeRoom o x2 0 N σ
def u_X4_beginTask_7 (o : Nat) (q1 : Nat) (x2 : Int32) (N : Nat) (σ : zS) : zS := s_X0_begin ((f_X4_taskAt o x2 σ) + 1) q1 (f_X8_at 4 (q1 + 3) x2 (u_X4_beginTask_6 o q1 x2 N σ)) 16 (q1 + 4) (x2 * 4) N (u_X4_beginTask_6 o q1 x2 N σ)
def u_X4_beginTask_8 (o : Nat) (q1 : Nat) (x2 : Int32) (N : Nat) (σ : zS) : zS := zuI (u_X4_beginTask_7 o q1 x2 N σ) (f_X4_taskAt o x2 σ) 1 1
def u_X4_beginTask_9 (o : Nat) (q1 : Nat) (x2 : Int32) (N : Nat) (σ : zS) : zS := zuI (u_X4_beginTask_8 o q1 x2 N σ) (f_X4_taskAt o x2 σ) 3 0
def u_X4_beginTask_10 (o : Nat) (q1 : Nat) (x2 : Int32) (N : Nat) (σ : zS) : zS := s_X4_moveIn o x2 1 0 (u_X4_beginTask_9 o q1 x2 N σ)
def r_X4_beginTask (o : Nat) (q1 : Nat) (x2 : Int32) (N : Nat) (σ : zS) : Int32 × zS := if (σ.1 o 12) = (-1) then (0, (u_X4_beginTask_10 o q1 x2 N σ)) else (f_X4_behind o (σ.1 o 12) σ, (u_X4_beginTask_5 o q1 x2 N σ))
def p_X4_beginTask (o : Nat) (q1 : Nat) (x2 : Int32) (N : Nat) (σ : zS) : Prop := p_X4_taskAt o x2 σ ∧ ((¬ (σ.1 o 12) = (-1) → (p_X4_makeRoom o x2 (f_X4_behind o (σ.1 o 12) σ) N σ ∧ (p_X8_at 4 (q1 + 3) x2 (u_X4_beginTask_1 o q1 x2 N σ) ∧ (p_X0_begin ((f_X4_taskAt o x2 σ) + 1) q1 (f_X8_at 4 (q1 + 3) x2 (u_X4_beginTask_1 o q1 x2 N σ)) 16 (q1 + 4) (x2 * 4) N (u_X4_beginTask_1 o q1 x2 N σ) ∧ p_X4_moveIn o x2 1 (f_X4_behind o (σ.1 o 12) σ) (u_X4_beginTask_4 o q1 x2 N σ))))) ∧ ((σ.1 o 12) = (-1) → (p_X4_makeRoom o x2 0 N σ ∧ (p_X8_at 4 (q1 + 3) x2 (u_X4_beginTask_6 o q1 x2 N σ) ∧ (p_X0_begin ((f_X4_taskAt o x2 σ) + 1) q1 (f_X8_at 4 (q1 + 3) x2 (u_X4_beginTask_6 o q1 x2 N σ)) 16 (q1 + 4) (x2 * 4) N (u_X4_beginTask_6 o q1 x2 N σ) ∧ p_X4_moveIn o x2 1 0 (u_X4_beginTask_9 o q1 x2 N σ))))))
set_option maxRecDepth 100000 in
set_option maxHeartbeats 1000000 in
theorem c_X4_beginTask {nx : Nat} (o : Nat) (q1 : Nat) (x2 : Int32) (N : Nat) (σ : zS) (hp : p_X4_beginTask o q1 x2 N σ) : zCl 4 zall nx zall nx 70 [.inr (4, 17, o), .inr (2, 16, q1), .inl x2] σ (fun v σ1 => v = some (.inl ((r_X4_beginTask o q1 x2 N σ).1)) ∧ σ1 = (r_X4_beginTask o q1 x2 N σ).2) := by
  refine zmeth (cd := kX4_beginTask) [] 1000 (Nat.le_of_ble_eq_true rfl) rfl okX4_beginTask (Nat.le_refl _) (Nat.le_of_ble_eq_true rfl) ?_
  refine zCl.use (c_X4_taskAt o x2 σ hp.1) (Nat.le_of_ble_eq_true rfl) ?_
  rintro _ σz ⟨rfl, hz⟩
  subst σz
  refine And.intro (fun (h1 : ¬ (σ.1 o 12) = (-1)) => ?_) (fun (h1 : (σ.1 o 12) = (-1)) => ?_)
  · refine zCl.use (c_X4_behind o (σ.1 o 12) σ) (Nat.le_of_ble_eq_true rfl) ?_
    rintro _ σz ⟨rfl, hz⟩
    subst σz
    refine zCl.use (c_X4_makeRoom o x2 (f_X4_behind o (σ.1 o 12) σ) N σ (hp.2.1 h1).1) (Nat.le_of_ble_eq_true rfl) ?_
    rintro _ σz ⟨rfl, hz⟩
    subst σz
    refine zCl.use (c_X8_at 4 (q1 + 3) x2 (u_X4_beginTask_1 o q1 x2 N σ) (hp.2.1 h1).2.1) (Nat.le_of_ble_eq_true rfl) ?_
    rintro _ σz ⟨rfl, hz⟩
    subst σz
    refine zCl.use (c_X0_begin ((f_X4_taskAt o x2 σ) + 1) q1 (f_X8_at 4 (q1 + 3) x2 (u_X4_beginTask_1 o q1 x2 N σ)) 16 (q1 + 4) (x2 * 4) N (u_X4_beginTask_1 o q1 x2 N σ) (hp.2.1 h1).2.2.1) (Nat.le_of_ble_eq_true rfl) ?_
    rintro _ σz ⟨rfl, hz⟩
    subst σz
    refine zCl.use (c_X4_moveIn o x2 1 (f_X4_behind o (σ.1 o 12) σ) (u_X4_beginTask_4 o q1 x2 N σ) (hp.2.1 h1).2.2.2) (Nat.le_of_ble_eq_true rfl) ?_
    rintro _ σz ⟨rfl, hz⟩
    subst σz
    exact And.intro rfl (And.intro rfl ⟨by rw [r_X4_beginTask, if_neg h1] <;> rfl, by rw [r_X4_beginTask, if_neg h1] <;> rfl⟩)
  · refine zCl.use (c_X4_makeRoom o x2 0 N σ (hp.2.2 h1).1) (Nat.le_of_ble_eq_true rfl) ?_
    rintro _ σz ⟨rfl, hz⟩
    subst σz
    refine zCl.use (c_X8_at 4 (q1 + 3) x2 (u_X4_beginTask_6 o q1 x2 N σ) (hp.2.2 h1).2.1) (Nat.le_of_ble_eq_true rfl) ?_
    rintro _ σz ⟨rfl, hz⟩
    subst σz
    refine zCl.use (c_X0_begin ((f_X4_taskAt o x2 σ) + 1) q1 (f_X8_at 4 (q1 + 3) x2 (u_X4_beginTask_6 o q1 x2 N σ)) 16 (q1 + 4) (x2 * 4) N (u_X4_beginTask_6 o q1 x2 N σ) (hp.2.2 h1).2.2.1) (Nat.le_of_ble_eq_true rfl) ?_
    rintro _ σz ⟨rfl, hz⟩
    subst σz
    refine zCl.use (c_X4_moveIn o x2 1 0 (u_X4_beginTask_9 o q1 x2 N σ) (hp.2.2 h1).2.2.2) (Nat.le_of_ble_eq_true rfl) ?_
    rintro _ σz ⟨rfl, hz⟩
    subst σz
    exact And.intro rfl (And.intro rfl ⟨by rw [r_X4_beginTask, if_pos h1] <;> rfl, by rw [r_X4_beginTask, if_pos h1] <;> rfl⟩)
def u_X4_comeBack_1 (o : Nat) (x1 : Int32) (N : Nat) (σ : zS) : zS := s_X4_makeRoom o x1 (f_X4_behind o (σ.1 o 12) σ) N σ
def u_X4_comeBack_2 (o : Nat) (x1 : Int32) (N : Nat) (σ : zS) : zS := zuI (u_X4_comeBack_1 o x1 N σ) (f_X4_taskAt o x1 (u_X4_comeBack_1 o x1 N σ)) 3 (f_X4_behind o (σ.1 o 12) σ)
def u_X4_comeBack_3 (o : Nat) (x1 : Int32) (N : Nat) (σ : zS) : zS := s_X4_moveIn o x1 ((u_X4_comeBack_2 o x1 N σ).1 ((f_X4_taskAt o x1 (u_X4_comeBack_1 o x1 N σ)) + 1) 0) (f_X4_behind o (σ.1 o 12) σ) (u_X4_comeBack_2 o x1 N σ)
def u_X4_comeBack_4 (o : Nat) (x1 : Int32) (N : Nat) (σ : zS) : zS := zuI (u_X4_comeBack_3 o x1 N σ) (f_X4_taskAt o x1 (u_X4_comeBack_1 o x1 N σ)) 11 (((u_X4_comeBack_3 o x1 N σ).1 (f_X4_taskAt o x1 (u_X4_comeBack_1 o x1 N σ)) 11) + 1)
def u_X4_comeBack_5 (o : Nat) (x1 : Int32) (N : Nat) (σ : zS) : zS := zuI (u_X4_comeBack_4 o x1 N σ) (f_X4_taskAt o x1 (u_X4_comeBack_1 o x1 N σ)) 9 (((u_X4_comeBack_4 o x1 N σ).1 (f_X4_taskAt o x1 (u_X4_comeBack_1 o x1 N σ)) 9) + 1)
def u_X4_comeBack_6 (o : Nat) (x1 : Int32) (N : Nat) (σ : zS) : zS := s_X4_noteTrap o 2 x1 1 x1 (u_X4_comeBack_5 o x1 N σ)
def u_X4_comeBack_7 (o : Nat) (x1 : Int32) (N : Nat) (σ : zS) : zS := s_X4_makeRoom o x1 0 N σ
def u_X4_comeBack_8 (o : Nat) (x1 : Int32) (N : Nat) (σ : zS) : zS := zuI (u_X4_comeBack_7 o x1 N σ) (f_X4_taskAt o x1 (u_X4_comeBack_7 o x1 N σ)) 3 0
def u_X4_comeBack_9 (o : Nat) (x1 : Int32) (N : Nat) (σ : zS) : zS := s_X4_moveIn o x1 ((u_X4_comeBack_8 o x1 N σ).1 ((f_X4_taskAt o x1 (u_X4_comeBack_7 o x1 N σ)) + 1) 0) 0 (u_X4_comeBack_8 o x1 N σ)
def u_X4_comeBack_10 (o : Nat) (x1 : Int32) (N : Nat) (σ : zS) : zS := zuI (u_X4_comeBack_9 o x1 N σ) (f_X4_taskAt o x1 (u_X4_comeBack_7 o x1 N σ)) 11 (((u_X4_comeBack_9 o x1 N σ).1 (f_X4_taskAt o x1 (u_X4_comeBack_7 o x1 N σ)) 11) + 1)
def u_X4_comeBack_11 (o : Nat) (x1 : Int32) (N : Nat) (σ : zS) : zS := zuI (u_X4_comeBack_10 o x1 N σ) (f_X4_taskAt o x1 (u_X4_comeBack_7 o x1 N σ)) 9 (((u_X4_comeBack_10 o x1 N σ).1 (f_X4_taskAt o x1 (u_X4_comeBack_7 o x1 N σ)) 9) + 1)
def u_X4_comeBack_12 (o : Nat) (x1 : Int32) (N : Nat) (σ : zS) : zS := s_X4_noteTrap o 2 x1 1 x1 (u_X4_comeBack_11 o x1 N σ)
def s_X4_comeBack (o : Nat) (x1 : Int32) (N : Nat) (σ : zS) : zS := if (σ.1 o 12) = (-1) then (u_X4_comeBack_12 o x1 N σ) else (u_X4_comeBack_6 o x1 N σ)
def p_X4_comeBack (o : Nat) (x1 : Int32) (N : Nat) (σ : zS) : Prop := (¬ (σ.1 o 12) = (-1) → (p_X4_makeRoom o x1 (f_X4_behind o (σ.1 o 12) σ) N σ ∧ (p_X4_taskAt o x1 (u_X4_comeBack_1 o x1 N σ) ∧ (p_X4_moveIn o x1 ((u_X4_comeBack_2 o x1 N σ).1 ((f_X4_taskAt o x1 (u_X4_comeBack_1 o x1 N σ)) + 1) 0) (f_X4_behind o (σ.1 o 12) σ) (u_X4_comeBack_2 o x1 N σ) ∧ p_X4_noteTrap o 2 x1 1 x1 (u_X4_comeBack_5 o x1 N σ))))) ∧ ((σ.1 o 12) = (-1) → (p_X4_makeRoom o x1 0 N σ ∧ (p_X4_taskAt o x1 (u_X4_comeBack_7 o x1 N σ) ∧ (p_X4_moveIn o x1 ((u_X4_comeBack_8 o x1 N σ).1 ((f_X4_taskAt o x1 (u_X4_comeBack_7 o x1 N σ)) + 1) 0) 0 (u_X4_comeBack_8 o x1 N σ) ∧ p_X4_noteTrap o 2 x1 1 x1 (u_X4_comeBack_11 o x1 N σ)))))
set_option maxRecDepth 100000 in
set_option maxHeartbeats 1000000 in
theorem c_X4_comeBack {nx : Nat} (o : Nat) (x1 : Int32) (N : Nat) (σ : zS) (hp : p_X4_comeBack o x1 N σ) : zCl 4 zall nx zall nx 72 [.inr (4, 17, o), .inl x1] σ (fun v σ1 => v = none ∧ σ1 = s_X4_comeBack o x1 N σ) := by
  refine zmeth (cd := kX4_comeBack) [] 1000 (Nat.le_of_ble_eq_true rfl) rfl okX4_comeBack (Nat.le_refl _) (Nat.le_of_ble_eq_true rfl) ?_
  refine And.intro (fun (h1 : ¬ (σ.1 o 12) = (-1)) => ?_) (fun (h1 : (σ.1 o 12) = (-1)) => ?_)
  · refine zCl.use (c_X4_behind o (σ.1 o 12) σ) (Nat.le_of_ble_eq_true rfl) ?_
    rintro _ σz ⟨rfl, hz⟩
    subst σz
    refine zCl.use (c_X4_makeRoom o x1 (f_X4_behind o (σ.1 o 12) σ) N σ (hp.1 h1).1) (Nat.le_of_ble_eq_true rfl) ?_
    rintro _ σz ⟨rfl, hz⟩
    subst σz
    refine zCl.use (c_X4_taskAt o x1 (u_X4_comeBack_1 o x1 N σ) (hp.1 h1).2.1) (Nat.le_of_ble_eq_true rfl) ?_
    rintro _ σz ⟨rfl, hz⟩
    subst σz
    refine zCl.use (c_X4_moveIn o x1 ((u_X4_comeBack_2 o x1 N σ).1 ((f_X4_taskAt o x1 (u_X4_comeBack_1 o x1 N σ)) + 1) 0) (f_X4_behind o (σ.1 o 12) σ) (u_X4_comeBack_2 o x1 N σ) (hp.1 h1).2.2.1) (Nat.le_of_ble_eq_true rfl) ?_
    rintro _ σz ⟨rfl, hz⟩
    subst σz
    refine zCl.use (c_X4_noteTrap o 2 x1 1 x1 (u_X4_comeBack_5 o x1 N σ) (hp.1 h1).2.2.2) (Nat.le_of_ble_eq_true rfl) ?_
    rintro _ σz ⟨rfl, hz⟩
    subst σz
    exact And.intro rfl (And.intro rfl ⟨rfl, by rw [s_X4_comeBack, if_neg h1] <;> rfl⟩)
  · refine zCl.use (c_X4_makeRoom o x1 0 N σ (hp.2 h1).1) (Nat.le_of_ble_eq_true rfl) ?_
    rintro _ σz ⟨rfl, hz⟩
    subst σz
    refine zCl.use (c_X4_taskAt o x1 (u_X4_comeBack_7 o x1 N σ) (hp.2 h1).2.1) (Nat.le_of_ble_eq_true rfl) ?_
    rintro _ σz ⟨rfl, hz⟩
    subst σz
    refine zCl.use (c_X4_moveIn o x1 ((u_X4_comeBack_8 o x1 N σ).1 ((f_X4_taskAt o x1 (u_X4_comeBack_7 o x1 N σ)) + 1) 0) 0 (u_X4_comeBack_8 o x1 N σ) (hp.2 h1).2.2.1) (Nat.le_of_ble_eq_true rfl) ?_
    rintro _ σz ⟨rfl, hz⟩
    subst σz
    refine zCl.use (c_X4_noteTrap o 2 x1 1 x1 (u_X4_comeBack_11 o x1 N σ) (hp.2 h1).2.2.2) (Nat.le_of_ble_eq_true rfl) ?_
    rintro _ σz ⟨rfl, hz⟩
    subst σz
    exact And.intro rfl (And.intro rfl ⟨rfl, by rw [s_X4_comeBack, if_pos h1] <;> rfl⟩)
def u_X4_enterFrame_1 (o : Nat) (q1 : Nat) (x2 : Int32) (x3 : Int32) (N : Nat) (σ : zS) : zS := s_X4_makeRoom o x2 (f_X4_behind o x3 σ) N σ
def u_X4_enterFrame_2 (o : Nat) (q1 : Nat) (x2 : Int32) (x3 : Int32) (N : Nat) (σ : zS) : zS := s_X0_enter ((f_X4_taskAt o x2 (u_X4_enterFrame_1 o q1 x2 x3 N σ)) + 1) q1 N (u_X4_enterFrame_1 o q1 x2 x3 N σ)
def u_X4_enterFrame_3 (o : Nat) (q1 : Nat) (x2 : Int32) (x3 : Int32) (N : Nat) (σ : zS) : zS := zuI (u_X4_enterFrame_2 o q1 x2 x3 N σ) (f_X4_taskAt o x2 (u_X4_enterFrame_1 o q1 x2 x3 N σ)) 3 (f_X4_behind o x3 σ)
def u_X4_enterFrame_4 (o : Nat) (q1 : Nat) (x2 : Int32) (x3 : Int32) (N : Nat) (σ : zS) : zS := s_X4_moveIn o x2 ((u_X4_enterFrame_3 o q1 x2 x3 N σ).1 ((f_X4_taskAt o x2 (u_X4_enterFrame_1 o q1 x2 x3 N σ)) + 1) 0) (f_X4_behind o x3 σ) (u_X4_enterFrame_3 o q1 x2 x3 N σ)
def r_X4_enterFrame (o : Nat) (q1 : Nat) (x2 : Int32) (x3 : Int32) (N : Nat) (σ : zS) : Int32 × zS := (f_X4_behind o x3 σ, (u_X4_enterFrame_4 o q1 x2 x3 N σ))
def p_X4_enterFrame (o : Nat) (q1 : Nat) (x2 : Int32) (x3 : Int32) (N : Nat) (σ : zS) : Prop := p_X4_makeRoom o x2 (f_X4_behind o x3 σ) N σ ∧ (p_X4_taskAt o x2 (u_X4_enterFrame_1 o q1 x2 x3 N σ) ∧ (p_X0_enter ((f_X4_taskAt o x2 (u_X4_enterFrame_1 o q1 x2 x3 N σ)) + 1) q1 N (u_X4_enterFrame_1 o q1 x2 x3 N σ) ∧ p_X4_moveIn o x2 ((u_X4_enterFrame_3 o q1 x2 x3 N σ).1 ((f_X4_taskAt o x2 (u_X4_enterFrame_1 o q1 x2 x3 N σ)) + 1) 0) (f_X4_behind o x3 σ) (u_X4_enterFrame_3 o q1 x2 x3 N σ)))
set_option maxRecDepth 100000 in
set_option maxHeartbeats 1000000 in
theorem c_X4_enterFrame {nx : Nat} (o : Nat) (q1 : Nat) (x2 : Int32) (x3 : Int32) (N : Nat) (σ : zS) (hp : p_X4_enterFrame o q1 x2 x3 N σ) : zCl 4 zall nx zall nx 73 [.inr (4, 17, o), .inr (2, 16, q1), .inl x2, .inl x3] σ (fun v σ1 => v = some (.inl ((r_X4_enterFrame o q1 x2 x3 N σ).1)) ∧ σ1 = (r_X4_enterFrame o q1 x2 x3 N σ).2) := by
  refine zmeth (cd := kX4_enterFrame) [] 1000 (Nat.le_of_ble_eq_true rfl) rfl okX4_enterFrame (Nat.le_refl _) (Nat.le_of_ble_eq_true rfl) ?_
  refine zCl.use (c_X4_behind o x3 σ) (Nat.le_of_ble_eq_true rfl) ?_
  rintro _ σz ⟨rfl, hz⟩
  subst σz
  refine zCl.use (c_X4_makeRoom o x2 (f_X4_behind o x3 σ) N σ hp.1) (Nat.le_of_ble_eq_true rfl) ?_
  rintro _ σz ⟨rfl, hz⟩
  subst σz
  refine zCl.use (c_X4_taskAt o x2 (u_X4_enterFrame_1 o q1 x2 x3 N σ) hp.2.1) (Nat.le_of_ble_eq_true rfl) ?_
  rintro _ σz ⟨rfl, hz⟩
  subst σz
  refine zCl.use (c_X0_enter ((f_X4_taskAt o x2 (u_X4_enterFrame_1 o q1 x2 x3 N σ)) + 1) q1 N (u_X4_enterFrame_1 o q1 x2 x3 N σ) hp.2.2.1) (Nat.le_of_ble_eq_true rfl) ?_
  rintro _ σz ⟨rfl, hz⟩
  subst σz
  refine zCl.use (c_X4_moveIn o x2 ((u_X4_enterFrame_3 o q1 x2 x3 N σ).1 ((f_X4_taskAt o x2 (u_X4_enterFrame_1 o q1 x2 x3 N σ)) + 1) 0) (f_X4_behind o x3 σ) (u_X4_enterFrame_3 o q1 x2 x3 N σ) hp.2.2.2) (Nat.le_of_ble_eq_true rfl) ?_
  rintro _ σz ⟨rfl, hz⟩
  subst σz
  exact And.intro rfl (And.intro rfl ⟨by rw [r_X4_enterFrame] <;> rfl, by rw [r_X4_enterFrame] <;> rfl⟩)
def u_X4_leaveFrame_1 (o : Nat) (x1 : Int32) (x2 : Int32) (N : Nat) (σ : zS) : zS := s_X0_leave ((f_X4_taskAt o x1 σ) + 1) σ
def u_X4_leaveFrame_2 (o : Nat) (x1 : Int32) (x2 : Int32) (N : Nat) (σ : zS) : zS := s_X4_moveOut o x1 x2 (u_X4_leaveFrame_1 o x1 x2 N σ)
def u_X4_leaveFrame_3 (o : Nat) (x1 : Int32) (x2 : Int32) (N : Nat) (σ : zS) : zS := zuI (u_X4_leaveFrame_2 o x1 x2 N σ) (f_X4_taskAt o x1 σ) 3 (f_X4_ahead o x2 (u_X4_leaveFrame_2 o x1 x2 N σ))
def u_X4_leaveFrame_4 (o : Nat) (x1 : Int32) (x2 : Int32) (N : Nat) (σ : zS) : zS := s_X4_fill o x1 x2 N (u_X4_leaveFrame_2 o x1 x2 N σ)
def u_X4_leaveFrame_5 (o : Nat) (x1 : Int32) (x2 : Int32) (N : Nat) (σ : zS) : zS := zuI (u_X4_leaveFrame_2 o x1 x2 N σ) (f_X4_taskAt o x1 σ) 1 2
def r_X4_leaveFrame (o : Nat) (x1 : Int32) (x2 : Int32) (N : Nat) (σ : zS) : Int32 × zS := if ((u_X4_leaveFrame_2 o x1 x2 N σ).1 ((f_X4_taskAt o x1 σ) + 1) 0) = 0 then ((u_X4_leaveFrame_5 o x1 x2 N σ).1 (f_X4_taskAt o x1 σ) 3, (u_X4_leaveFrame_5 o x1 x2 N σ)) else (if ((u_X4_leaveFrame_2 o x1 x2 N σ).1 (f_X4_taskAt o x1 σ) 2) = 0 then ((u_X4_leaveFrame_4 o x1 x2 N σ).1 (f_X4_taskAt o x1 σ) 3, (u_X4_leaveFrame_4 o x1 x2 N σ)) else ((u_X4_leaveFrame_3 o x1 x2 N σ).1 (f_X4_taskAt o x1 σ) 3, (u_X4_leaveFrame_3 o x1 x2 N σ)))
def p_X4_leaveFrame (o : Nat) (x1 : Int32) (x2 : Int32) (N : Nat) (σ : zS) : Prop := p_X4_taskAt o x1 σ ∧ (p_X0_leave ((f_X4_taskAt o x1 σ) + 1) σ ∧ (p_X4_moveOut o x1 x2 (u_X4_leaveFrame_1 o x1 x2 N σ) ∧ (¬ ((u_X4_leaveFrame_2 o x1 x2 N σ).1 ((f_X4_taskAt o x1 σ) + 1) 0) = 0 → (((u_X4_leaveFrame_2 o x1 x2 N σ).1 (f_X4_taskAt o x1 σ) 2) = 0 → p_X4_fill o x1 x2 N (u_X4_leaveFrame_2 o x1 x2 N σ)))))
set_option maxRecDepth 100000 in
set_option maxHeartbeats 1000000 in
theorem c_X4_leaveFrame {nx : Nat} (o : Nat) (x1 : Int32) (x2 : Int32) (N : Nat) (σ : zS) (hp : p_X4_leaveFrame o x1 x2 N σ) : zCl 4 zall nx zall nx 74 [.inr (4, 17, o), .inl x1, .inl x2] σ (fun v σ1 => v = some (.inl ((r_X4_leaveFrame o x1 x2 N σ).1)) ∧ σ1 = (r_X4_leaveFrame o x1 x2 N σ).2) := by
  refine zmeth (cd := kX4_leaveFrame) [] 1000 (Nat.le_of_ble_eq_true rfl) rfl okX4_leaveFrame (Nat.le_refl _) (Nat.le_of_ble_eq_true rfl) ?_
  refine zCl.use (c_X4_taskAt o x1 σ hp.1) (Nat.le_of_ble_eq_true rfl) ?_
  rintro _ σz ⟨rfl, hz⟩
  subst σz
  refine zCl.use (c_X0_leave ((f_X4_taskAt o x1 σ) + 1) σ hp.2.1) (Nat.le_of_ble_eq_true rfl) ?_
  rintro _ σz ⟨rfl, hz⟩
  subst σz
  refine zCl.use (c_X4_moveOut o x1 x2 (u_X4_leaveFrame_1 o x1 x2 N σ) hp.2.2.1) (Nat.le_of_ble_eq_true rfl) ?_
  rintro _ σz ⟨rfl, hz⟩
  subst σz
  refine And.intro (fun (h1 : ¬ ((u_X4_leaveFrame_2 o x1 x2 N σ).1 ((f_X4_taskAt o x1 σ) + 1) 0) = 0) => ?_) (fun (h1 : ((u_X4_leaveFrame_2 o x1 x2 N σ).1 ((f_X4_taskAt o x1 σ) + 1) 0) = 0) => ?_)
  · refine And.intro (fun (h2 : ¬ ((u_X4_leaveFrame_2 o x1 x2 N σ).1 (f_X4_taskAt o x1 σ) 2) = 0) => ?_) (fun (h2 : ((u_X4_leaveFrame_2 o x1 x2 N σ).1 (f_X4_taskAt o x1 σ) 2) = 0) => ?_)
    · refine zCl.use (c_X4_ahead o x2 (u_X4_leaveFrame_2 o x1 x2 N σ)) (Nat.le_of_ble_eq_true rfl) ?_
      rintro _ σz ⟨rfl, hz⟩
      subst σz
      exact And.intro rfl (And.intro rfl ⟨by rw [r_X4_leaveFrame, if_neg h1, if_neg h2] <;> rfl, by rw [r_X4_leaveFrame, if_neg h1, if_neg h2] <;> rfl⟩)
    · refine zCl.use (c_X4_fill o x1 x2 N (u_X4_leaveFrame_2 o x1 x2 N σ) ((hp.2.2.2 h1) h2)) (Nat.le_of_ble_eq_true rfl) ?_
      rintro _ σz ⟨rfl, hz⟩
      subst σz
      exact And.intro rfl (And.intro rfl ⟨by rw [r_X4_leaveFrame, if_neg h1, if_pos h2] <;> rfl, by rw [r_X4_leaveFrame, if_neg h1, if_pos h2] <;> rfl⟩)
  · exact And.intro rfl (And.intro rfl ⟨by rw [r_X4_leaveFrame, if_pos h1] <;> rfl, by rw [r_X4_leaveFrame, if_pos h1] <;> rfl⟩)
def f_X6_wordKind (N : Nat) (σ : zS) : Int32 := if (f_X6_isWord 0 N σ) = 0 then (if (f_X6_isWord 1 N σ) = 0 then (if (f_X6_isWord 2 N σ) = 0 then (if (f_X6_isWord 3 N σ) = 0 then (if (f_X6_isWord 4 N σ) = 0 then (if (f_X6_isWord 5 N σ) = 0 then (if (f_X6_isWord 6 N σ) = 0 then (if (f_X6_isWord 7 N σ) = 0 then (if (f_X6_isWord 8 N σ) = 0 then (if (f_X6_isWord 9 N σ) = 0 then (if (f_X6_isWord 10 N σ) = 0 then (if (f_X6_isWord 11 N σ) = 0 then (if (f_X6_isWord 12 N σ) = 0 then 303 else 322) else 321) else 320) else 319) else 318) else 317) else 316) else 315) else 314) else 313) else 312) else 311) else 310
def p_X6_wordKind (N : Nat) (σ : zS) : Prop := p_X6_isWord 0 N σ ∧ ((f_X6_isWord 0 N σ) = 0 → (p_X6_isWord 1 N σ ∧ ((f_X6_isWord 1 N σ) = 0 → (p_X6_isWord 2 N σ ∧ ((f_X6_isWord 2 N σ) = 0 → (p_X6_isWord 3 N σ ∧ ((f_X6_isWord 3 N σ) = 0 → (p_X6_isWord 4 N σ ∧ ((f_X6_isWord 4 N σ) = 0 → (p_X6_isWord 5 N σ ∧ ((f_X6_isWord 5 N σ) = 0 → (p_X6_isWord 6 N σ ∧ ((f_X6_isWord 6 N σ) = 0 → (p_X6_isWord 7 N σ ∧ ((f_X6_isWord 7 N σ) = 0 → (p_X6_isWord 8 N σ ∧ ((f_X6_isWord 8 N σ) = 0 → (p_X6_isWord 9 N σ ∧ ((f_X6_isWord 9 N σ) = 0 → (p_X6_isWord 10 N σ ∧ ((f_X6_isWord 10 N σ) = 0 → (p_X6_isWord 11 N σ ∧ ((f_X6_isWord 11 N σ) = 0 → p_X6_isWord 12 N σ)))))))))))))))))))))))
set_option maxRecDepth 100000 in
set_option maxHeartbeats 1000000 in
theorem c_X6_wordKind {cp : Nat → Bool} {nx : Nat} (N : Nat) (σ : zS) (hp : p_X6_wordKind N σ) : zCl 7 cp nx cp nx 96 [.inr (6, 6, 3)] σ (fun v σ1 => v = some (.inl (f_X6_wordKind N σ)) ∧ σ1 = σ) := by
  refine zmeth (cd := kX6_wordKind) [] 1000 (Nat.le_of_ble_eq_true rfl) rfl okX6_wordKind (Nat.le_refl _) (Nat.le_of_ble_eq_true rfl) ?_
  refine zCl.use (c_X6_isWord 0 N σ hp.1) (Nat.le_of_ble_eq_true rfl) ?_
  rintro _ σz ⟨rfl, hz⟩
  subst σz
  refine And.intro (fun (h1 : (f_X6_isWord 0 N σ) = 0) => ?_) (fun (h1 : ¬ (f_X6_isWord 0 N σ) = 0) => ?_)
  · refine zCl.use (c_X6_isWord 1 N σ (hp.2 h1).1) (Nat.le_of_ble_eq_true rfl) ?_
    rintro _ σz ⟨rfl, hz⟩
    subst σz
    refine And.intro (fun (h2 : (f_X6_isWord 1 N σ) = 0) => ?_) (fun (h2 : ¬ (f_X6_isWord 1 N σ) = 0) => ?_)
    · refine zCl.use (c_X6_isWord 2 N σ ((hp.2 h1).2 h2).1) (Nat.le_of_ble_eq_true rfl) ?_
      rintro _ σz ⟨rfl, hz⟩
      subst σz
      refine And.intro (fun (h3 : (f_X6_isWord 2 N σ) = 0) => ?_) (fun (h3 : ¬ (f_X6_isWord 2 N σ) = 0) => ?_)
      · refine zCl.use (c_X6_isWord 3 N σ (((hp.2 h1).2 h2).2 h3).1) (Nat.le_of_ble_eq_true rfl) ?_
        rintro _ σz ⟨rfl, hz⟩
        subst σz
        refine And.intro (fun (h4 : (f_X6_isWord 3 N σ) = 0) => ?_) (fun (h4 : ¬ (f_X6_isWord 3 N σ) = 0) => ?_)
        · refine zCl.use (c_X6_isWord 4 N σ ((((hp.2 h1).2 h2).2 h3).2 h4).1) (Nat.le_of_ble_eq_true rfl) ?_
          rintro _ σz ⟨rfl, hz⟩
          subst σz
          refine And.intro (fun (h5 : (f_X6_isWord 4 N σ) = 0) => ?_) (fun (h5 : ¬ (f_X6_isWord 4 N σ) = 0) => ?_)
          · refine zCl.use (c_X6_isWord 5 N σ (((((hp.2 h1).2 h2).2 h3).2 h4).2 h5).1) (Nat.le_of_ble_eq_true rfl) ?_
            rintro _ σz ⟨rfl, hz⟩
            subst σz
            refine And.intro (fun (h6 : (f_X6_isWord 5 N σ) = 0) => ?_) (fun (h6 : ¬ (f_X6_isWord 5 N σ) = 0) => ?_)
            · refine zCl.use (c_X6_isWord 6 N σ ((((((hp.2 h1).2 h2).2 h3).2 h4).2 h5).2 h6).1) (Nat.le_of_ble_eq_true rfl) ?_
              rintro _ σz ⟨rfl, hz⟩
              subst σz
              refine And.intro (fun (h7 : (f_X6_isWord 6 N σ) = 0) => ?_) (fun (h7 : ¬ (f_X6_isWord 6 N σ) = 0) => ?_)
              · refine zCl.use (c_X6_isWord 7 N σ (((((((hp.2 h1).2 h2).2 h3).2 h4).2 h5).2 h6).2 h7).1) (Nat.le_of_ble_eq_true rfl) ?_
                rintro _ σz ⟨rfl, hz⟩
                subst σz
                refine And.intro (fun (h8 : (f_X6_isWord 7 N σ) = 0) => ?_) (fun (h8 : ¬ (f_X6_isWord 7 N σ) = 0) => ?_)
                · refine zCl.use (c_X6_isWord 8 N σ ((((((((hp.2 h1).2 h2).2 h3).2 h4).2 h5).2 h6).2 h7).2 h8).1) (Nat.le_of_ble_eq_true rfl) ?_
                  rintro _ σz ⟨rfl, hz⟩
                  subst σz
                  refine And.intro (fun (h9 : (f_X6_isWord 8 N σ) = 0) => ?_) (fun (h9 : ¬ (f_X6_isWord 8 N σ) = 0) => ?_)
                  · refine zCl.use (c_X6_isWord 9 N σ (((((((((hp.2 h1).2 h2).2 h3).2 h4).2 h5).2 h6).2 h7).2 h8).2 h9).1) (Nat.le_of_ble_eq_true rfl) ?_
                    rintro _ σz ⟨rfl, hz⟩
                    subst σz
                    refine And.intro (fun (h10 : (f_X6_isWord 9 N σ) = 0) => ?_) (fun (h10 : ¬ (f_X6_isWord 9 N σ) = 0) => ?_)
                    · refine zCl.use (c_X6_isWord 10 N σ ((((((((((hp.2 h1).2 h2).2 h3).2 h4).2 h5).2 h6).2 h7).2 h8).2 h9).2 h10).1) (Nat.le_of_ble_eq_true rfl) ?_
                      rintro _ σz ⟨rfl, hz⟩
                      subst σz
                      refine And.intro (fun (h11 : (f_X6_isWord 10 N σ) = 0) => ?_) (fun (h11 : ¬ (f_X6_isWord 10 N σ) = 0) => ?_)
                      · refine zCl.use (c_X6_isWord 11 N σ (((((((((((hp.2 h1).2 h2).2 h3).2 h4).2 h5).2 h6).2 h7).2 h8).2 h9).2 h10).2 h11).1) (Nat.le_of_ble_eq_true rfl) ?_
                        rintro _ σz ⟨rfl, hz⟩
                        subst σz
                        refine And.intro (fun (h12 : (f_X6_isWord 11 N σ) = 0) => ?_) (fun (h12 : ¬ (f_X6_isWord 11 N σ) = 0) => ?_)
                        · refine zCl.use (c_X6_isWord 12 N σ ((((((((((((hp.2 h1).2 h2).2 h3).2 h4).2 h5).2 h6).2 h7).2 h8).2 h9).2 h10).2 h11).2 h12)) (Nat.le_of_ble_eq_true rfl) ?_
                          rintro _ σz ⟨rfl, hz⟩
                          subst σz
                          refine And.intro (fun (h13 : (f_X6_isWord 12 N σ) = 0) => ?_) (fun (h13 : ¬ (f_X6_isWord 12 N σ) = 0) => ?_)
                          · exact And.intro rfl (And.intro rfl ⟨by rw [f_X6_wordKind, if_pos h1, if_pos h2, if_pos h3, if_pos h4, if_pos h5, if_pos h6, if_pos h7, if_pos h8, if_pos h9, if_pos h10, if_pos h11, if_pos h12, if_pos h13] <;> rfl, rfl⟩)
                          · exact And.intro rfl (And.intro rfl ⟨by rw [f_X6_wordKind, if_pos h1, if_pos h2, if_pos h3, if_pos h4, if_pos h5, if_pos h6, if_pos h7, if_pos h8, if_pos h9, if_pos h10, if_pos h11, if_pos h12, if_neg h13] <;> rfl, rfl⟩)
                        · exact And.intro rfl (And.intro rfl ⟨by rw [f_X6_wordKind, if_pos h1, if_pos h2, if_pos h3, if_pos h4, if_pos h5, if_pos h6, if_pos h7, if_pos h8, if_pos h9, if_pos h10, if_pos h11, if_neg h12] <;> rfl, rfl⟩)
                      · exact And.intro rfl (And.intro rfl ⟨by rw [f_X6_wordKind, if_pos h1, if_pos h2, if_pos h3, if_pos h4, if_pos h5, if_pos h6, if_pos h7, if_pos h8, if_pos h9, if_pos h10, if_neg h11] <;> rfl, rfl⟩)
                    · exact And.intro rfl (And.intro rfl ⟨by rw [f_X6_wordKind, if_pos h1, if_pos h2, if_pos h3, if_pos h4, if_pos h5, if_pos h6, if_pos h7, if_pos h8, if_pos h9, if_neg h10] <;> rfl, rfl⟩)
                  · exact And.intro rfl (And.intro rfl ⟨by rw [f_X6_wordKind, if_pos h1, if_pos h2, if_pos h3, if_pos h4, if_pos h5, if_pos h6, if_pos h7, if_pos h8, if_neg h9] <;> rfl, rfl⟩)
                · exact And.intro rfl (And.intro rfl ⟨by rw [f_X6_wordKind, if_pos h1, if_pos h2, if_pos h3, if_pos h4, if_pos h5, if_pos h6, if_pos h7, if_neg h8] <;> rfl, rfl⟩)
              · exact And.intro rfl (And.intro rfl ⟨by rw [f_X6_wordKind, if_pos h1, if_pos h2, if_pos h3, if_pos h4, if_pos h5, if_pos h6, if_neg h7] <;> rfl, rfl⟩)
            · exact And.intro rfl (And.intro rfl ⟨by rw [f_X6_wordKind, if_pos h1, if_pos h2, if_pos h3, if_pos h4, if_pos h5, if_neg h6] <;> rfl, rfl⟩)
          · exact And.intro rfl (And.intro rfl ⟨by rw [f_X6_wordKind, if_pos h1, if_pos h2, if_pos h3, if_pos h4, if_neg h5] <;> rfl, rfl⟩)
        · exact And.intro rfl (And.intro rfl ⟨by rw [f_X6_wordKind, if_pos h1, if_pos h2, if_pos h3, if_neg h4] <;> rfl, rfl⟩)
      · exact And.intro rfl (And.intro rfl ⟨by rw [f_X6_wordKind, if_pos h1, if_pos h2, if_neg h3] <;> rfl, rfl⟩)
    · exact And.intro rfl (And.intro rfl ⟨by rw [f_X6_wordKind, if_pos h1, if_neg h2] <;> rfl, rfl⟩)
  · exact And.intro rfl (And.intro rfl ⟨by rw [f_X6_wordKind, if_neg h1] <;> rfl, rfl⟩)
def u_X7_follow_h0_1 (o : Nat) (q1 : Nat) (N : Nat) (v2 : Int32) (v3 : Int32) (σ : zS) : zS := (r_X0_reach (o + 1) q1 N σ).2
def u_X7_follow_h0_2 (o : Nat) (q1 : Nat) (N : Nat) (v2 : Int32) (v3 : Int32) (σ : zS) : zS := zuI (u_X7_follow_h0_1 o q1 N v2 v3 σ) (o + 1) 0 (((u_X7_follow_h0_1 o q1 N v2 v3 σ).1 (o + 1) 0) + 1)
def u_X7_follow_h0_3 (o : Nat) (q1 : Nat) (N : Nat) (v2 : Int32) (v3 : Int32) (σ : zS) : zS := s_X8_put 3000 (o + 5) ((u_X7_follow_h0_2 o q1 N v2 v3 σ).1 o 2) ((u_X7_follow_h0_2 o q1 N v2 v3 σ).1 (o + 1) 0) (u_X7_follow_h0_2 o q1 N v2 v3 σ)
def u_X7_follow_h0_4 (o : Nat) (q1 : Nat) (N : Nat) (v2 : Int32) (v3 : Int32) (σ : zS) : zS := zuI (u_X7_follow_h0_3 o q1 N v2 v3 σ) o 3 (if ((u_X7_follow_h0_3 o q1 N v2 v3 σ).1 o 3) < ((u_X7_follow_h0_3 o q1 N v2 v3 σ).1 (o + 1) 0) then ((u_X7_follow_h0_3 o q1 N v2 v3 σ).1 (o + 1) 0) else ((u_X7_follow_h0_3 o q1 N v2 v3 σ).1 o 3))
def u_X7_follow_h0_5 (o : Nat) (q1 : Nat) (N : Nat) (v2 : Int32) (v3 : Int32) (σ : zS) : zS := zuI (u_X7_follow_h0_4 o q1 N v2 v3 σ) o 2 (((u_X7_follow_h0_4 o q1 N v2 v3 σ).1 o 2) + 1)
def u_X7_follow_h0_6 (o : Nat) (q1 : Nat) (N : Nat) (v2 : Int32) (v3 : Int32) (σ : zS) : zS := zuI (u_X7_follow_h0_1 o q1 N v2 v3 σ) o 4 (((u_X7_follow_h0_1 o q1 N v2 v3 σ).1 o 4) + 0)
def u_X7_follow_h0_7 (o : Nat) (q1 : Nat) (N : Nat) (v2 : Int32) (v3 : Int32) (σ : zS) : zS := s_X0_enter (o + 1) q1 N (u_X7_follow_h0_6 o q1 N v2 v3 σ)
def u_X7_follow_h0_8 (o : Nat) (q1 : Nat) (N : Nat) (v2 : Int32) (v3 : Int32) (σ : zS) : zS := s_X8_put 3000 (o + 5) ((u_X7_follow_h0_7 o q1 N v2 v3 σ).1 o 2) ((u_X7_follow_h0_7 o q1 N v2 v3 σ).1 (o + 1) 0) (u_X7_follow_h0_7 o q1 N v2 v3 σ)
def u_X7_follow_h0_9 (o : Nat) (q1 : Nat) (N : Nat) (v2 : Int32) (v3 : Int32) (σ : zS) : zS := zuI (u_X7_follow_h0_8 o q1 N v2 v3 σ) o 3 (if ((u_X7_follow_h0_8 o q1 N v2 v3 σ).1 o 3) < ((u_X7_follow_h0_8 o q1 N v2 v3 σ).1 (o + 1) 0) then ((u_X7_follow_h0_8 o q1 N v2 v3 σ).1 (o + 1) 0) else ((u_X7_follow_h0_8 o q1 N v2 v3 σ).1 o 3))
def u_X7_follow_h0_10 (o : Nat) (q1 : Nat) (N : Nat) (v2 : Int32) (v3 : Int32) (σ : zS) : zS := zuI (u_X7_follow_h0_9 o q1 N v2 v3 σ) o 2 (((u_X7_follow_h0_9 o q1 N v2 v3 σ).1 o 2) + 1)
def u_X7_follow_h0_11 (o : Nat) (q1 : Nat) (N : Nat) (v2 : Int32) (v3 : Int32) (σ : zS) : zS := zuI (u_X7_follow_h0_1 o q1 N v2 v3 σ) o 4 (((u_X7_follow_h0_1 o q1 N v2 v3 σ).1 o 4) + 1)
def u_X7_follow_h0_12 (o : Nat) (q1 : Nat) (N : Nat) (v2 : Int32) (v3 : Int32) (σ : zS) : zS := s_X0_enter (o + 1) q1 N (u_X7_follow_h0_11 o q1 N v2 v3 σ)
def u_X7_follow_h0_13 (o : Nat) (q1 : Nat) (N : Nat) (v2 : Int32) (v3 : Int32) (σ : zS) : zS := s_X8_put 3000 (o + 5) ((u_X7_follow_h0_12 o q1 N v2 v3 σ).1 o 2) ((u_X7_follow_h0_12 o q1 N v2 v3 σ).1 (o + 1) 0) (u_X7_follow_h0_12 o q1 N v2 v3 σ)
def u_X7_follow_h0_14 (o : Nat) (q1 : Nat) (N : Nat) (v2 : Int32) (v3 : Int32) (σ : zS) : zS := zuI (u_X7_follow_h0_13 o q1 N v2 v3 σ) o 3 (if ((u_X7_follow_h0_13 o q1 N v2 v3 σ).1 o 3) < ((u_X7_follow_h0_13 o q1 N v2 v3 σ).1 (o + 1) 0) then ((u_X7_follow_h0_13 o q1 N v2 v3 σ).1 (o + 1) 0) else ((u_X7_follow_h0_13 o q1 N v2 v3 σ).1 o 3))
def u_X7_follow_h0_15 (o : Nat) (q1 : Nat) (N : Nat) (v2 : Int32) (v3 : Int32) (σ : zS) : zS := zuI (u_X7_follow_h0_14 o q1 N v2 v3 σ) o 2 (((u_X7_follow_h0_14 o q1 N v2 v3 σ).1 o 2) + 1)
def u_X7_follow_h0_16 (o : Nat) (q1 : Nat) (N : Nat) (v2 : Int32) (v3 : Int32) (σ : zS) : zS := s_X0_leave (o + 1) (u_X7_follow_h0_1 o q1 N v2 v3 σ)
def u_X7_follow_h0_17 (o : Nat) (q1 : Nat) (N : Nat) (v2 : Int32) (v3 : Int32) (σ : zS) : zS := s_X8_put 3000 (o + 5) ((u_X7_follow_h0_16 o q1 N v2 v3 σ).1 o 2) ((u_X7_follow_h0_16 o q1 N v2 v3 σ).1 (o + 1) 0) (u_X7_follow_h0_16 o q1 N v2 v3 σ)
def u_X7_follow_h0_18 (o : Nat) (q1 : Nat) (N : Nat) (v2 : Int32) (v3 : Int32) (σ : zS) : zS := zuI (u_X7_follow_h0_17 o q1 N v2 v3 σ) o 3 (if ((u_X7_follow_h0_17 o q1 N v2 v3 σ).1 o 3) < ((u_X7_follow_h0_17 o q1 N v2 v3 σ).1 (o + 1) 0) then ((u_X7_follow_h0_17 o q1 N v2 v3 σ).1 (o + 1) 0) else ((u_X7_follow_h0_17 o q1 N v2 v3 σ).1 o 3))
def u_X7_follow_h0_19 (o : Nat) (q1 : Nat) (N : Nat) (v2 : Int32) (v3 : Int32) (σ : zS) : zS := zuI (u_X7_follow_h0_18 o q1 N v2 v3 σ) o 2 (((u_X7_follow_h0_18 o q1 N v2 v3 σ).1 o 2) + 1)
def l_X7_follow (o : Nat) (q1 : Nat) (N : Nat) : Nat → Int32 → Int32 → zS → zS
  | 0, _, _, σ => σ
  | n + 1, v2, v3, σ => if v3 ≤ (σ.1 o 2) then σ else (if (σ.1 (o + 1) 0) ≤ 0 then σ else (if 60 < (σ.1 (o + 1) 0) then σ else (if ((r_X0_reach (o + 1) q1 N σ).1) = 13 then (l_X7_follow o q1 N n v2 v3 (u_X7_follow_h0_19 o q1 N v2 v3 σ)) else (if 60 ≤ ((u_X7_follow_h0_1 o q1 N v2 v3 σ).1 (o + 1) 0) then (l_X7_follow o q1 N n v2 v3 (u_X7_follow_h0_5 o q1 N v2 v3 σ)) else (if (f_X0_called (o + 1) q1 (u_X7_follow_h0_1 o q1 N v2 v3 σ)) = v2 then (l_X7_follow o q1 N n v2 v3 (u_X7_follow_h0_15 o q1 N v2 v3 σ)) else (l_X7_follow o q1 N n v2 v3 (u_X7_follow_h0_10 o q1 N v2 v3 σ)))))))
def q_X7_follow (o : Nat) (q1 : Nat) (N : Nat) : Nat → Int32 → Int32 → zS → Prop
  | 0, _, _, _ => False
  | n + 1, v2, v3, σ => ¬ v3 ≤ (σ.1 o 2) → (¬ (σ.1 (o + 1) 0) ≤ 0 → (¬ 60 < (σ.1 (o + 1) 0) → (p_X0_reach (o + 1) q1 N σ ∧ ((¬ ((r_X0_reach (o + 1) q1 N σ).1) = 13 → ((60 ≤ ((u_X7_follow_h0_1 o q1 N v2 v3 σ).1 (o + 1) 0) → (p_X8_put 3000 (o + 5) ((u_X7_follow_h0_2 o q1 N v2 v3 σ).1 o 2) ((u_X7_follow_h0_2 o q1 N v2 v3 σ).1 (o + 1) 0) (u_X7_follow_h0_2 o q1 N v2 v3 σ) ∧ q_X7_follow o q1 N n v2 v3 (u_X7_follow_h0_5 o q1 N v2 v3 σ))) ∧ (¬ 60 ≤ ((u_X7_follow_h0_1 o q1 N v2 v3 σ).1 (o + 1) 0) → (p_X0_called (o + 1) q1 (u_X7_follow_h0_1 o q1 N v2 v3 σ) ∧ ((¬ (f_X0_called (o + 1) q1 (u_X7_follow_h0_1 o q1 N v2 v3 σ)) = v2 → (p_X0_enter (o + 1) q1 N (u_X7_follow_h0_6 o q1 N v2 v3 σ) ∧ (p_X8_put 3000 (o + 5) ((u_X7_follow_h0_7 o q1 N v2 v3 σ).1 o 2) ((u_X7_follow_h0_7 o q1 N v2 v3 σ).1 (o + 1) 0) (u_X7_follow_h0_7 o q1 N v2 v3 σ) ∧ q_X7_follow o q1 N n v2 v3 (u_X7_follow_h0_10 o q1 N v2 v3 σ)))) ∧ ((f_X0_called (o + 1) q1 (u_X7_follow_h0_1 o q1 N v2 v3 σ)) = v2 → (p_X0_enter (o + 1) q1 N (u_X7_follow_h0_11 o q1 N v2 v3 σ) ∧ (p_X8_put 3000 (o + 5) ((u_X7_follow_h0_12 o q1 N v2 v3 σ).1 o 2) ((u_X7_follow_h0_12 o q1 N v2 v3 σ).1 (o + 1) 0) (u_X7_follow_h0_12 o q1 N v2 v3 σ) ∧ q_X7_follow o q1 N n v2 v3 (u_X7_follow_h0_15 o q1 N v2 v3 σ))))))))) ∧ (((r_X0_reach (o + 1) q1 N σ).1) = 13 → (p_X0_leave (o + 1) (u_X7_follow_h0_1 o q1 N v2 v3 σ) ∧ (p_X8_put 3000 (o + 5) ((u_X7_follow_h0_16 o q1 N v2 v3 σ).1 o 2) ((u_X7_follow_h0_16 o q1 N v2 v3 σ).1 (o + 1) 0) (u_X7_follow_h0_16 o q1 N v2 v3 σ) ∧ q_X7_follow o q1 N n v2 v3 (u_X7_follow_h0_19 o q1 N v2 v3 σ))))))))
set_option maxRecDepth 100000 in
set_option maxHeartbeats 1000000 in
theorem w_X7_follow {nx : Nat} (o : Nat) (q1 : Nat) (N : Nat) : ∀ n : Nat, (∀ (v2 : Int32) (v3 : Int32) (σ : zS), q_X7_follow o q1 N n v2 v3 σ → zWp 5 zall nx 106 (fun v σ1 => v = none ∧ σ1 = l_X7_follow o q1 N n v2 v3 σ) zall nx 0 [some (.inr (7, 5, o)), some (.inr (2, 16, q1)), some (.inl v2), some (.inl v3)] [] σ) := by
  intro n
  induction n with
  | zero => exact fun _ _ _ h => h.elim
  | succ n ih =>
    intro v2 v3 σ hp
    rw [q_X7_follow] at hp
    refine zvc_sound (cd := kX7_follow) (cs := [0]) rfl okX7_follow 1000 _ _ 0 (zseek kX7_follow 0) _ _ _ zseek_sub ?_
    refine And.intro (fun (h1 : v3 ≤ (σ.1 o 2)) => ?_) (fun (h1 : ¬ v3 ≤ (σ.1 o 2)) => ?_)
    · exact And.intro rfl (And.intro rfl ⟨rfl, by rw [l_X7_follow, if_pos h1] <;> rfl⟩)
    · refine And.intro (fun (h2 : (σ.1 (o + 1) 0) ≤ 0) => ?_) (fun (h2 : ¬ (σ.1 (o + 1) 0) ≤ 0) => ?_)
      · exact And.intro rfl (And.intro rfl ⟨rfl, by rw [l_X7_follow, if_neg h1, if_pos h2] <;> rfl⟩)
      · refine And.intro (fun (h3 : 60 < (σ.1 (o + 1) 0)) => ?_) (fun (h3 : ¬ 60 < (σ.1 (o + 1) 0)) => ?_)
        · exact And.intro rfl (And.intro rfl ⟨rfl, by rw [l_X7_follow, if_neg h1, if_neg h2, if_pos h3] <;> rfl⟩)
        · refine zCl.use (c_X0_reach (o + 1) q1 N σ (((hp h1) h2) h3).1) (Nat.le_of_ble_eq_true rfl) ?_
          rintro _ σz ⟨rfl, hz⟩
          subst σz
          refine And.intro (fun (h4 : ¬ ((r_X0_reach (o + 1) q1 N σ).1) = 13) => ?_) (fun (h4 : ((r_X0_reach (o + 1) q1 N σ).1) = 13) => ?_)
          · refine And.intro (fun (h5 : 60 ≤ ((u_X7_follow_h0_1 o q1 N v2 v3 σ).1 (o + 1) 0)) => ?_) (fun (h5 : ¬ 60 ≤ ((u_X7_follow_h0_1 o q1 N v2 v3 σ).1 (o + 1) 0)) => ?_)
            · refine zCl.use (c_X8_put 3000 (o + 5) ((u_X7_follow_h0_2 o q1 N v2 v3 σ).1 o 2) ((u_X7_follow_h0_2 o q1 N v2 v3 σ).1 (o + 1) 0) (u_X7_follow_h0_2 o q1 N v2 v3 σ) (((((hp h1) h2) h3).2.1 h4).1 h5).1) (Nat.le_of_ble_eq_true rfl) ?_
              rintro _ σz ⟨rfl, hz⟩
              subst σz
              refine zWp.use (ih v2 v3 (u_X7_follow_h0_5 o q1 N v2 v3 σ) (((((hp h1) h2) h3).2.1 h4).1 h5).2) (And.intro rfl (And.intro rfl (And.intro rfl (And.intro rfl trivial)))) (fun vy σy hy => ?_)
              rw [l_X7_follow, if_neg h1, if_neg h2, if_neg h3, if_neg h4, if_pos h5]; exact hy
            · refine zCl.use (c_X0_called (o + 1) q1 (u_X7_follow_h0_1 o q1 N v2 v3 σ) (((((hp h1) h2) h3).2.1 h4).2 h5).1) (Nat.le_of_ble_eq_true rfl) ?_
              rintro _ σz ⟨rfl, hz⟩
              subst σz
              refine And.intro (fun (h6 : ¬ (f_X0_called (o + 1) q1 (u_X7_follow_h0_1 o q1 N v2 v3 σ)) = v2) => ?_) (fun (h6 : (f_X0_called (o + 1) q1 (u_X7_follow_h0_1 o q1 N v2 v3 σ)) = v2) => ?_)
              · refine zCl.use (c_X0_enter (o + 1) q1 N (u_X7_follow_h0_6 o q1 N v2 v3 σ) ((((((hp h1) h2) h3).2.1 h4).2 h5).2.1 h6).1) (Nat.le_of_ble_eq_true rfl) ?_
                rintro _ σz ⟨rfl, hz⟩
                subst σz
                refine zCl.use (c_X8_put 3000 (o + 5) ((u_X7_follow_h0_7 o q1 N v2 v3 σ).1 o 2) ((u_X7_follow_h0_7 o q1 N v2 v3 σ).1 (o + 1) 0) (u_X7_follow_h0_7 o q1 N v2 v3 σ) ((((((hp h1) h2) h3).2.1 h4).2 h5).2.1 h6).2.1) (Nat.le_of_ble_eq_true rfl) ?_
                rintro _ σz ⟨rfl, hz⟩
                subst σz
                refine zWp.use (ih v2 v3 (u_X7_follow_h0_10 o q1 N v2 v3 σ) ((((((hp h1) h2) h3).2.1 h4).2 h5).2.1 h6).2.2) (And.intro rfl (And.intro rfl (And.intro rfl (And.intro rfl trivial)))) (fun vy σy hy => ?_)
                rw [l_X7_follow, if_neg h1, if_neg h2, if_neg h3, if_neg h4, if_neg h5, if_neg h6]; exact hy
              · refine zCl.use (c_X0_enter (o + 1) q1 N (u_X7_follow_h0_11 o q1 N v2 v3 σ) ((((((hp h1) h2) h3).2.1 h4).2 h5).2.2 h6).1) (Nat.le_of_ble_eq_true rfl) ?_
                rintro _ σz ⟨rfl, hz⟩
                subst σz
                refine zCl.use (c_X8_put 3000 (o + 5) ((u_X7_follow_h0_12 o q1 N v2 v3 σ).1 o 2) ((u_X7_follow_h0_12 o q1 N v2 v3 σ).1 (o + 1) 0) (u_X7_follow_h0_12 o q1 N v2 v3 σ) ((((((hp h1) h2) h3).2.1 h4).2 h5).2.2 h6).2.1) (Nat.le_of_ble_eq_true rfl) ?_
                rintro _ σz ⟨rfl, hz⟩
                subst σz
                refine zWp.use (ih v2 v3 (u_X7_follow_h0_15 o q1 N v2 v3 σ) ((((((hp h1) h2) h3).2.1 h4).2 h5).2.2 h6).2.2) (And.intro rfl (And.intro rfl (And.intro rfl (And.intro rfl trivial)))) (fun vy σy hy => ?_)
                rw [l_X7_follow, if_neg h1, if_neg h2, if_neg h3, if_neg h4, if_neg h5, if_pos h6]; exact hy
          · refine zCl.use (c_X0_leave (o + 1) (u_X7_follow_h0_1 o q1 N v2 v3 σ) ((((hp h1) h2) h3).2.2 h4).1) (Nat.le_of_ble_eq_true rfl) ?_
            rintro _ σz ⟨rfl, hz⟩
            subst σz
            refine zCl.use (c_X8_put 3000 (o + 5) ((u_X7_follow_h0_16 o q1 N v2 v3 σ).1 o 2) ((u_X7_follow_h0_16 o q1 N v2 v3 σ).1 (o + 1) 0) (u_X7_follow_h0_16 o q1 N v2 v3 σ) ((((hp h1) h2) h3).2.2 h4).2.1) (Nat.le_of_ble_eq_true rfl) ?_
            rintro _ σz ⟨rfl, hz⟩
            subst σz
            refine zWp.use (ih v2 v3 (u_X7_follow_h0_19 o q1 N v2 v3 σ) ((((hp h1) h2) h3).2.2 h4).2.2) (And.intro rfl (And.intro rfl (And.intro rfl (And.intro rfl trivial)))) (fun vy σy hy => ?_)
            rw [l_X7_follow, if_neg h1, if_neg h2, if_neg h3, if_pos h4]; exact hy
def s_X7_follow (o : Nat) (q1 : Nat) (x2 : Int32) (x3 : Int32) (N : Nat) (σ : zS) : zS := l_X7_follow o q1 N N x2 x3 σ
def p_X7_follow (o : Nat) (q1 : Nat) (x2 : Int32) (x3 : Int32) (N : Nat) (σ : zS) : Prop := q_X7_follow o q1 N N x2 x3 σ
set_option maxRecDepth 100000 in
set_option maxHeartbeats 1000000 in
theorem c_X7_follow {nx : Nat} (o : Nat) (q1 : Nat) (x2 : Int32) (x3 : Int32) (N : Nat) (σ : zS) (hp : p_X7_follow o q1 x2 x3 N σ) : zCl 5 zall nx zall nx 106 [.inr (7, 5, o), .inr (2, 16, q1), .inl x2, .inl x3] σ (fun v σ1 => v = none ∧ σ1 = s_X7_follow o q1 x2 x3 N σ) := by
  refine zCl.of (Nat.le_of_ble_eq_true rfl) (Nat.le_refl _) (Nat.le_of_ble_eq_true rfl) ?_
  refine zWp.use ((w_X7_follow o q1 N N) x2 x3 σ hp) (And.intro rfl (And.intro rfl (And.intro rfl (And.intro rfl trivial)))) (fun vy σy hy => ?_)
  rw [s_X7_follow]; exact hy
