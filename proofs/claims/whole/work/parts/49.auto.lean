/-! printed by wip/whole/dec2.py -/
def u_X9_comeBack_1 (x1 : Int32) (N : Nat) (σ : zS) : zS := s_X9_makeRoom x1 (f_X9_wanted σ) 0 N σ
def u_X9_comeBack_2 (x1 : Int32) (N : Nat) (σ : zS) : zS := s_X9_come x1 (f_X9_wanted σ) (u_X9_comeBack_1 x1 N σ)
def u_X9_comeBack_3 (x1 : Int32) (N : Nat) (σ : zS) : zS := zuI (u_X9_comeBack_2 x1 N σ) 469 (f_X9_atTask x1 8).toNatClampNeg (((u_X9_comeBack_2 x1 N σ).1 469 (f_X9_atTask x1 8).toNatClampNeg) + 1)
def u_X9_comeBack_4 (x1 : Int32) (N : Nat) (σ : zS) : zS := zuI (u_X9_comeBack_3 x1 N σ) 469 (f_X9_atTask x1 10).toNatClampNeg (((u_X9_comeBack_3 x1 N σ).1 469 (f_X9_atTask x1 10).toNatClampNeg) + 1)
def u_X9_comeBack_5 (x1 : Int32) (N : Nat) (σ : zS) : zS := s_X9_tellTrap 2 x1 1 x1 N (u_X9_comeBack_4 x1 N σ)
def s_X9_comeBack (x1 : Int32) (N : Nat) (σ : zS) : zS := (u_X9_comeBack_5 x1 N σ)
def p_X9_comeBack (x1 : Int32) (N : Nat) (σ : zS) : Prop := p_X9_wanted σ ∧ (p_X9_makeRoom x1 (f_X9_wanted σ) 0 N σ ∧ (p_X9_come x1 (f_X9_wanted σ) (u_X9_comeBack_1 x1 N σ) ∧ (vp_in (f_X9_atTask x1 8) 14241 ∧ (vp_in (f_X9_atTask x1 10) 14241 ∧ p_X9_tellTrap 2 x1 1 x1 N (u_X9_comeBack_4 x1 N σ)))))
set_option maxRecDepth 100000 in
set_option maxHeartbeats 1000000 in
theorem c_X9_comeBack {nx : Nat} (x1 : Int32) (N : Nat) (σ : zS) (hp : p_X9_comeBack x1 N σ) : zCl 5 zall nx zall nx 252 [.inr (9, 57, 468), .inl x1] σ (fun v σ1 => v = none ∧ σ1 = s_X9_comeBack x1 N σ) := by
  refine zmeth (cd := kX9_comeBack) [] 1000 (Nat.le_of_ble_eq_true rfl) rfl okX9_comeBack (Nat.le_refl _) (Nat.le_of_ble_eq_true rfl) ?_
  refine zCl.use (c_X9_wanted σ hp.1) (Nat.le_of_ble_eq_true rfl) ?_
  rintro _ σz ⟨rfl, hz⟩
  subst σz
  refine zCl.use (c_X9_makeRoom x1 (f_X9_wanted σ) 0 N σ hp.2.1) (Nat.le_of_ble_eq_true rfl) ?_
  rintro _ σz ⟨rfl, hz⟩
  subst σz
  refine zCl.use (c_X9_come x1 (f_X9_wanted σ) (u_X9_comeBack_1 x1 N σ) hp.2.2.1) (Nat.le_of_ble_eq_true rfl) ?_
  rintro _ σz ⟨rfl, hz⟩
  subst σz
  refine zCl.use (c_X9_atTask x1 8 (u_X9_comeBack_2 x1 N σ)) (Nat.le_of_ble_eq_true rfl) ?_
  rintro _ σz ⟨rfl, hz⟩
  subst σz
  refine And.intro hp.2.2.2.1 ?_
  refine And.intro hp.2.2.2.1 ?_
  refine zCl.use (c_X9_atTask x1 10 (u_X9_comeBack_3 x1 N σ)) (Nat.le_of_ble_eq_true rfl) ?_
  rintro _ σz ⟨rfl, hz⟩
  subst σz
  refine And.intro hp.2.2.2.2.1 ?_
  refine And.intro hp.2.2.2.2.1 ?_
  refine zCl.use (c_X9_tellTrap 2 x1 1 x1 N (u_X9_comeBack_4 x1 N σ) hp.2.2.2.2.2) (Nat.le_of_ble_eq_true rfl) ?_
  rintro _ σz ⟨rfl, hz⟩
  subst σz
  exact And.intro rfl (And.intro rfl ⟨rfl, by rw [s_X9_comeBack] <;> rfl⟩)
def u_X9_doFail_h0_1 (N : Nat) (v1 : Int32) (v2 : Int32) (σ : zS) : zS := zuI σ 469 (f_X9_atTask v1 0).toNatClampNeg 3
def u_X9_doFail_h0_2 (N : Nat) (v1 : Int32) (v2 : Int32) (σ : zS) : zS := zuI (u_X9_doFail_h0_1 N v1 v2 σ) 469 (f_X9_atTask v1 1).toNatClampNeg 0
def u_X9_doFail_h0_3 (N : Nat) (v1 : Int32) (v2 : Int32) (σ : zS) : zS := zuI (u_X9_doFail_h0_2 N v1 v2 σ) 469 (f_X9_atTask v1 2).toNatClampNeg 0
def u_X9_doFail_h0_4 (N : Nat) (v1 : Int32) (v2 : Int32) (σ : zS) : zS := s_X9_free v2 σ
def l_X9_doFail (N : Nat) : Nat → Int32 → Int32 → zS → zS
  | 0, _, _, σ => σ
  | n + 1, v1, v2, σ => if (f_X9_windowsNow σ) ≤ v2 then (u_X9_doFail_h0_3 N v1 v2 σ) else (if (σ.1 469 (12 + v2).toNatClampNeg) = v1 then (l_X9_doFail N n v1 (v2 + 1) (u_X9_doFail_h0_4 N v1 v2 σ)) else (l_X9_doFail N n v1 (v2 + 1) σ))
def q_X9_doFail (N : Nat) : Nat → Int32 → Int32 → zS → Prop
  | 0, _, _, _ => False
  | n + 1, v1, v2, σ => p_X9_windowsNow σ ∧ (((f_X9_windowsNow σ) ≤ v2 → (vp_in (f_X9_atTask v1 0) 14241 ∧ (vp_in (f_X9_atTask v1 1) 14241 ∧ vp_in (f_X9_atTask v1 2) 14241))) ∧ (¬ (f_X9_windowsNow σ) ≤ v2 → (vp_in (12 + v2) 14241 ∧ ((¬ (σ.1 469 (12 + v2).toNatClampNeg) = v1 → q_X9_doFail N n v1 (v2 + 1) σ) ∧ ((σ.1 469 (12 + v2).toNatClampNeg) = v1 → (p_X9_free v2 σ ∧ q_X9_doFail N n v1 (v2 + 1) (u_X9_doFail_h0_4 N v1 v2 σ)))))))
set_option maxRecDepth 100000 in
set_option maxHeartbeats 1000000 in
theorem w_X9_doFail {nx : Nat} (N : Nat) : ∀ n : Nat, (∀ (v1 : Int32) (v2 : Int32) (σ : zS), q_X9_doFail N n v1 v2 σ → zWp 3 zall nx 253 (fun v σ1 => v = none ∧ σ1 = l_X9_doFail N n v1 v2 σ) zall nx 20 [some (.inr (9, 57, 468)), some (.inl v1), some (.inl v2)] [] σ) := by
  intro n
  induction n with
  | zero => exact fun _ _ _ h => h.elim
  | succ n ih =>
    intro v1 v2 σ hp
    rw [q_X9_doFail] at hp
    refine zvc_sound (cd := kX9_doFail) (cs := [20]) rfl okX9_doFail 1000 _ _ 20 (zseek kX9_doFail 20) _ _ _ zseek_sub ?_
    refine zCl.use (c_X9_windowsNow σ hp.1) (Nat.le_of_ble_eq_true rfl) ?_
    rintro _ σz ⟨rfl, hz⟩
    subst σz
    refine And.intro (fun (h1 : (f_X9_windowsNow σ) ≤ v2) => ?_) (fun (h1 : ¬ (f_X9_windowsNow σ) ≤ v2) => ?_)
    · refine zCl.use (c_X9_atTask v1 0 σ) (Nat.le_of_ble_eq_true rfl) ?_
      rintro _ σz ⟨rfl, hz⟩
      subst σz
      refine And.intro (hp.2.1 h1).1 ?_
      refine zCl.use (c_X9_atTask v1 1 (u_X9_doFail_h0_1 N v1 v2 σ)) (Nat.le_of_ble_eq_true rfl) ?_
      rintro _ σz ⟨rfl, hz⟩
      subst σz
      refine And.intro (hp.2.1 h1).2.1 ?_
      refine zCl.use (c_X9_atTask v1 2 (u_X9_doFail_h0_2 N v1 v2 σ)) (Nat.le_of_ble_eq_true rfl) ?_
      rintro _ σz ⟨rfl, hz⟩
      subst σz
      refine And.intro (hp.2.1 h1).2.2 ?_
      exact And.intro rfl (And.intro rfl ⟨rfl, by rw [l_X9_doFail, if_pos h1] <;> rfl⟩)
    · refine And.intro (hp.2.2 h1).1 ?_
      refine And.intro (fun (h2 : ¬ (σ.1 469 (12 + v2).toNatClampNeg) = v1) => ?_) (fun (h2 : (σ.1 469 (12 + v2).toNatClampNeg) = v1) => ?_)
      · refine zWp.use (ih v1 (v2 + 1) σ ((hp.2.2 h1).2.1 h2)) (And.intro rfl (And.intro rfl (And.intro rfl trivial))) (fun vy σy hy => ?_)
        rw [l_X9_doFail, if_neg h1, if_neg h2]; exact hy
      · refine zCl.use (c_X9_free v2 σ ((hp.2.2 h1).2.2 h2).1) (Nat.le_of_ble_eq_true rfl) ?_
        rintro _ σz ⟨rfl, hz⟩
        subst σz
        refine zWp.use (ih v1 (v2 + 1) (u_X9_doFail_h0_4 N v1 v2 σ) ((hp.2.2 h1).2.2 h2).2) (And.intro rfl (And.intro rfl (And.intro rfl trivial))) (fun vy σy hy => ?_)
        rw [l_X9_doFail, if_neg h1, if_pos h2]; exact hy
def u_X9_doFail_1 (x1 : Int32) (N : Nat) (σ : zS) : zS := zuI σ 469 10 (σ.1 469 (f_X9_atTask x1 12).toNatClampNeg)
def s_X9_doFail (x1 : Int32) (N : Nat) (σ : zS) : zS := l_X9_doFail N N x1 0 (u_X9_doFail_1 x1 N σ)
def p_X9_doFail (x1 : Int32) (N : Nat) (σ : zS) : Prop := vp_in (f_X9_atTask x1 12) 14241 ∧ q_X9_doFail N N x1 0 (u_X9_doFail_1 x1 N σ)
set_option maxRecDepth 100000 in
set_option maxHeartbeats 1000000 in
theorem c_X9_doFail {nx : Nat} (x1 : Int32) (N : Nat) (σ : zS) (hp : p_X9_doFail x1 N σ) : zCl 3 zall nx zall nx 253 [.inr (9, 57, 468), .inl x1] σ (fun v σ1 => v = none ∧ σ1 = s_X9_doFail x1 N σ) := by
  refine zmeth (cd := kX9_doFail) [20] 1000 (Nat.le_of_ble_eq_true rfl) rfl okX9_doFail (Nat.le_refl _) (Nat.le_of_ble_eq_true rfl) ?_
  refine zCl.use (c_X9_atTask x1 12 σ) (Nat.le_of_ble_eq_true rfl) ?_
  rintro _ σz ⟨rfl, hz⟩
  subst σz
  refine And.intro hp.1 ?_
  refine And.intro (vp_in_iff.mpr (by decide)) ?_
  refine zWp.use ((w_X9_doFail N N) x1 0 (u_X9_doFail_1 x1 N σ) hp.2) (And.intro rfl (And.intro rfl (And.intro rfl trivial))) (fun vy σy hy => ?_)
  rw [s_X9_doFail]; exact hy
def u_X9_doCall_1 (x1 : Int32) (N : Nat) (σ : zS) : zS := s_X9_makeRoom x1 (f_X9_behind (σ.1 469 (f_X9_atTask x1 12).toNatClampNeg) 1 σ) 1 N σ
def u_X9_doCall_2 (x1 : Int32) (N : Nat) (σ : zS) : zS := s_X9_enter x1 ((u_X9_doCall_1 x1 N σ).1 468 41) N (u_X9_doCall_1 x1 N σ)
def u_X9_doCall_3 (x1 : Int32) (N : Nat) (σ : zS) : zS := s_X9_come x1 (f_X9_behind (σ.1 469 (f_X9_atTask x1 12).toNatClampNeg) 1 σ) (u_X9_doCall_2 x1 N σ)
def u_X9_doCall_4 (x1 : Int32) (N : Nat) (σ : zS) : zS := zuI (u_X9_doCall_3 x1 N σ) 469 (f_X9_atTask x1 2).toNatClampNeg ((f_X9_resident x1 (u_X9_doCall_2 x1 N σ)) + 1)
def u_X9_doCall_5 (x1 : Int32) (N : Nat) (σ : zS) : zS := zuI (u_X9_doCall_4 x1 N σ) 469 (f_X9_atTask x1 4).toNatClampNeg (f_X9_more ((u_X9_doCall_4 x1 N σ).1 469 (f_X9_atTask x1 4).toNatClampNeg) (f_X9_frames x1 (u_X9_doCall_4 x1 N σ)))
def u_X9_doCall_6 (x1 : Int32) (N : Nat) (σ : zS) : zS := zuI (u_X9_doCall_5 x1 N σ) 469 10 (f_X9_behind (σ.1 469 (f_X9_atTask x1 12).toNatClampNeg) 1 σ)
def u_X9_doCall_7 (x1 : Int32) (N : Nat) (σ : zS) : zS := s_X9_doFail x1 N σ
def s_X9_doCall (x1 : Int32) (N : Nat) (σ : zS) : zS := if (f_X9_frames x1 σ) = 60 then (u_X9_doCall_7 x1 N σ) else (u_X9_doCall_6 x1 N σ)
def p_X9_doCall (x1 : Int32) (N : Nat) (σ : zS) : Prop := p_X9_frames x1 σ ∧ ((¬ (f_X9_frames x1 σ) = 60 → (vp_in (f_X9_atTask x1 12) 14241 ∧ (p_X9_behind (σ.1 469 (f_X9_atTask x1 12).toNatClampNeg) 1 σ ∧ (p_X9_makeRoom x1 (f_X9_behind (σ.1 469 (f_X9_atTask x1 12).toNatClampNeg) 1 σ) 1 N σ ∧ (p_X9_enter x1 ((u_X9_doCall_1 x1 N σ).1 468 41) N (u_X9_doCall_1 x1 N σ) ∧ (p_X9_resident x1 (u_X9_doCall_2 x1 N σ) ∧ (p_X9_come x1 (f_X9_behind (σ.1 469 (f_X9_atTask x1 12).toNatClampNeg) 1 σ) (u_X9_doCall_2 x1 N σ) ∧ (vp_in (f_X9_atTask x1 2) 14241 ∧ (vp_in (f_X9_atTask x1 4) 14241 ∧ p_X9_frames x1 (u_X9_doCall_4 x1 N σ)))))))))) ∧ ((f_X9_frames x1 σ) = 60 → p_X9_doFail x1 N σ))
set_option maxRecDepth 100000 in
set_option maxHeartbeats 1000000 in
theorem c_X9_doCall {nx : Nat} (x1 : Int32) (N : Nat) (σ : zS) (hp : p_X9_doCall x1 N σ) : zCl 5 zall nx zall nx 254 [.inr (9, 57, 468), .inl x1] σ (fun v σ1 => v = none ∧ σ1 = s_X9_doCall x1 N σ) := by
  refine zmeth (cd := kX9_doCall) [] 1000 (Nat.le_of_ble_eq_true rfl) rfl okX9_doCall (Nat.le_refl _) (Nat.le_of_ble_eq_true rfl) ?_
  refine zCl.use (c_X9_frames x1 σ hp.1) (Nat.le_of_ble_eq_true rfl) ?_
  rintro _ σz ⟨rfl, hz⟩
  subst σz
  refine And.intro (fun (h1 : ¬ (f_X9_frames x1 σ) = 60) => ?_) (fun (h1 : (f_X9_frames x1 σ) = 60) => ?_)
  · refine zCl.use (c_X9_atTask x1 12 σ) (Nat.le_of_ble_eq_true rfl) ?_
    rintro _ σz ⟨rfl, hz⟩
    subst σz
    refine And.intro (hp.2.1 h1).1 ?_
    refine zCl.use (c_X9_behind (σ.1 469 (f_X9_atTask x1 12).toNatClampNeg) 1 σ (hp.2.1 h1).2.1) (Nat.le_of_ble_eq_true rfl) ?_
    rintro _ σz ⟨rfl, hz⟩
    subst σz
    refine zCl.use (c_X9_makeRoom x1 (f_X9_behind (σ.1 469 (f_X9_atTask x1 12).toNatClampNeg) 1 σ) 1 N σ (hp.2.1 h1).2.2.1) (Nat.le_of_ble_eq_true rfl) ?_
    rintro _ σz ⟨rfl, hz⟩
    subst σz
    refine zCl.use (c_X9_enter x1 ((u_X9_doCall_1 x1 N σ).1 468 41) N (u_X9_doCall_1 x1 N σ) (hp.2.1 h1).2.2.2.1) (Nat.le_of_ble_eq_true rfl) ?_
    rintro _ σz ⟨rfl, hz⟩
    subst σz
    refine zCl.use (c_X9_resident x1 (u_X9_doCall_2 x1 N σ) (hp.2.1 h1).2.2.2.2.1) (Nat.le_of_ble_eq_true rfl) ?_
    rintro _ σz ⟨rfl, hz⟩
    subst σz
    refine zCl.use (c_X9_come x1 (f_X9_behind (σ.1 469 (f_X9_atTask x1 12).toNatClampNeg) 1 σ) (u_X9_doCall_2 x1 N σ) (hp.2.1 h1).2.2.2.2.2.1) (Nat.le_of_ble_eq_true rfl) ?_
    rintro _ σz ⟨rfl, hz⟩
    subst σz
    refine zCl.use (c_X9_atTask x1 2 (u_X9_doCall_3 x1 N σ)) (Nat.le_of_ble_eq_true rfl) ?_
    rintro _ σz ⟨rfl, hz⟩
    subst σz
    refine And.intro (hp.2.1 h1).2.2.2.2.2.2.1 ?_
    refine zCl.use (c_X9_atTask x1 4 (u_X9_doCall_4 x1 N σ)) (Nat.le_of_ble_eq_true rfl) ?_
    rintro _ σz ⟨rfl, hz⟩
    subst σz
    refine zCl.use (c_X9_atTask x1 4 (u_X9_doCall_4 x1 N σ)) (Nat.le_of_ble_eq_true rfl) ?_
    rintro _ σz ⟨rfl, hz⟩
    subst σz
    refine And.intro (hp.2.1 h1).2.2.2.2.2.2.2.1 ?_
    refine zCl.use (c_X9_frames x1 (u_X9_doCall_4 x1 N σ) (hp.2.1 h1).2.2.2.2.2.2.2.2) (Nat.le_of_ble_eq_true rfl) ?_
    rintro _ σz ⟨rfl, hz⟩
    subst σz
    refine zCl.use (c_X9_more ((u_X9_doCall_4 x1 N σ).1 469 (f_X9_atTask x1 4).toNatClampNeg) (f_X9_frames x1 (u_X9_doCall_4 x1 N σ)) (u_X9_doCall_4 x1 N σ)) (Nat.le_of_ble_eq_true rfl) ?_
    rintro _ σz ⟨rfl, hz⟩
    subst σz
    refine And.intro (hp.2.1 h1).2.2.2.2.2.2.2.1 ?_
    refine And.intro (vp_in_iff.mpr (by decide)) ?_
    exact And.intro rfl (And.intro rfl ⟨rfl, by rw [s_X9_doCall, if_neg h1] <;> rfl⟩)
  · refine zCl.use (c_X9_doFail x1 N σ (hp.2.2 h1)) (Nat.le_of_ble_eq_true rfl) ?_
    rintro _ σz ⟨rfl, hz⟩
    subst σz
    exact And.intro rfl (And.intro rfl ⟨rfl, by rw [s_X9_doCall, if_pos h1] <;> rfl⟩)
def u_X9_fill_h0_1 (N : Nat) (v1 : Int32) (v2 : Int32) (v3 : Int32) (v4 : Int32) (σ : zS) : zS := zuI σ 469 (f_X9_atTask v1 2).toNatClampNeg v4
def u_X9_fill_h0_2 (N : Nat) (v1 : Int32) (v2 : Int32) (v3 : Int32) (v4 : Int32) (σ : zS) : zS := zuI (u_X9_fill_h0_1 N v1 v2 v3 v4 σ) 469 (f_X9_atTask v1 10).toNatClampNeg (((u_X9_fill_h0_1 N v1 v2 v3 v4 σ).1 469 (f_X9_atTask v1 10).toNatClampNeg) + v4)
def u_X9_fill_h0_3 (N : Nat) (v1 : Int32) (v2 : Int32) (v3 : Int32) (v4 : Int32) (σ : zS) : zS := s_X9_tellTrap 1 v1 v4 v1 N (u_X9_fill_h0_2 N v1 v2 v3 v4 σ)
def u_X9_fill_h0_4 (N : Nat) (v1 : Int32) (v2 : Int32) (v3 : Int32) (v4 : Int32) (σ : zS) : zS := zuI σ 469 (f_X9_atTask v1 2).toNatClampNeg v4
def u_X9_fill_h0_5 (N : Nat) (v1 : Int32) (v2 : Int32) (v3 : Int32) (v4 : Int32) (σ : zS) : zS := zuI (u_X9_fill_h0_4 N v1 v2 v3 v4 σ) 469 (f_X9_atTask v1 10).toNatClampNeg (((u_X9_fill_h0_4 N v1 v2 v3 v4 σ).1 469 (f_X9_atTask v1 10).toNatClampNeg) + v4)
def u_X9_fill_h0_6 (N : Nat) (v1 : Int32) (v2 : Int32) (v3 : Int32) (v4 : Int32) (σ : zS) : zS := s_X9_tellTrap 1 v1 v4 v1 N (u_X9_fill_h0_5 N v1 v2 v3 v4 σ)
def u_X9_fill_h0_7 (N : Nat) (v1 : Int32) (v2 : Int32) (v3 : Int32) (v4 : Int32) (σ : zS) : zS := s_X9_place (f_X9_behind v2 (-v4) σ) v1 ((f_X9_frames v1 σ) - v4) σ
def l_X9_fill (N : Nat) : Nat → Int32 → Int32 → Int32 → Int32 → zS → zS
  | 0, _, _, _, _, σ => σ
  | n + 1, v1, v2, v3, v4, σ => if v3 ≤ v4 then (u_X9_fill_h0_3 N v1 v2 v3 v4 σ) else (if (f_X9_isFree (f_X9_behind v2 (-v4) σ) σ) = 0 then (u_X9_fill_h0_6 N v1 v2 v3 v4 σ) else (l_X9_fill N n v1 v2 v3 (v4 + 1) (u_X9_fill_h0_7 N v1 v2 v3 v4 σ)))
def q_X9_fill (N : Nat) : Nat → Int32 → Int32 → Int32 → Int32 → zS → Prop
  | 0, _, _, _, _, _ => False
  | n + 1, v1, v2, v3, v4, σ => (v3 ≤ v4 → (vp_in (f_X9_atTask v1 2) 14241 ∧ (vp_in (f_X9_atTask v1 10) 14241 ∧ p_X9_tellTrap 1 v1 v4 v1 N (u_X9_fill_h0_2 N v1 v2 v3 v4 σ)))) ∧ (¬ v3 ≤ v4 → (p_X9_behind v2 (-v4) σ ∧ (p_X9_isFree (f_X9_behind v2 (-v4) σ) σ ∧ (((f_X9_isFree (f_X9_behind v2 (-v4) σ) σ) = 0 → (vp_in (f_X9_atTask v1 2) 14241 ∧ (vp_in (f_X9_atTask v1 10) 14241 ∧ p_X9_tellTrap 1 v1 v4 v1 N (u_X9_fill_h0_5 N v1 v2 v3 v4 σ)))) ∧ (¬ (f_X9_isFree (f_X9_behind v2 (-v4) σ) σ) = 0 → (p_X9_behind v2 (-v4) σ ∧ (p_X9_frames v1 σ ∧ (p_X9_place (f_X9_behind v2 (-v4) σ) v1 ((f_X9_frames v1 σ) - v4) σ ∧ q_X9_fill N n v1 v2 v3 (v4 + 1) (u_X9_fill_h0_7 N v1 v2 v3 v4 σ)))))))))
set_option maxRecDepth 100000 in
set_option maxHeartbeats 1000000 in
theorem w_X9_fill {nx : Nat} (N : Nat) : ∀ n : Nat, (∀ (v1 : Int32) (v2 : Int32) (v3 : Int32) (v4 : Int32) (σ : zS), q_X9_fill N n v1 v2 v3 v4 σ → zWp 4 zall nx 256 (fun v σ1 => v = none ∧ σ1 = l_X9_fill N n v1 v2 v3 v4 σ) zall nx 38 [some (.inr (9, 57, 468)), some (.inl v1), some (.inl v2), some (.inl v3), some (.inl v4)] [] σ) := by
  intro n
  induction n with
  | zero => exact fun _ _ _ _ _ h => h.elim
  | succ n ih =>
    intro v1 v2 v3 v4 σ hp
    rw [q_X9_fill] at hp
    refine zvc_sound (cd := kX9_fill) (cs := [38]) rfl okX9_fill 1000 _ _ 38 (zseek kX9_fill 38) _ _ _ zseek_sub ?_
    refine And.intro (fun (h1 : v3 ≤ v4) => ?_) (fun (h1 : ¬ v3 ≤ v4) => ?_)
    · refine zCl.use (c_X9_atTask v1 2 σ) (Nat.le_of_ble_eq_true rfl) ?_
      rintro _ σz ⟨rfl, hz⟩
      subst σz
      refine And.intro (hp.1 h1).1 ?_
      refine zCl.use (c_X9_atTask v1 10 (u_X9_fill_h0_1 N v1 v2 v3 v4 σ)) (Nat.le_of_ble_eq_true rfl) ?_
      rintro _ σz ⟨rfl, hz⟩
      subst σz
      refine And.intro (hp.1 h1).2.1 ?_
      refine And.intro (hp.1 h1).2.1 ?_
      refine zCl.use (c_X9_tellTrap 1 v1 v4 v1 N (u_X9_fill_h0_2 N v1 v2 v3 v4 σ) (hp.1 h1).2.2) (Nat.le_of_ble_eq_true rfl) ?_
      rintro _ σz ⟨rfl, hz⟩
      subst σz
      exact And.intro rfl (And.intro rfl ⟨rfl, by rw [l_X9_fill, if_pos h1] <;> rfl⟩)
    · refine zCl.use (c_X9_behind v2 (-v4) σ (hp.2 h1).1) (Nat.le_of_ble_eq_true rfl) ?_
      rintro _ σz ⟨rfl, hz⟩
      subst σz
      refine zCl.use (c_X9_isFree (f_X9_behind v2 (-v4) σ) σ (hp.2 h1).2.1) (Nat.le_of_ble_eq_true rfl) ?_
      rintro _ σz ⟨rfl, hz⟩
      subst σz
      refine And.intro (fun (h2 : (f_X9_isFree (f_X9_behind v2 (-v4) σ) σ) = 0) => ?_) (fun (h2 : ¬ (f_X9_isFree (f_X9_behind v2 (-v4) σ) σ) = 0) => ?_)
      · refine zCl.use (c_X9_atTask v1 2 σ) (Nat.le_of_ble_eq_true rfl) ?_
        rintro _ σz ⟨rfl, hz⟩
        subst σz
        refine And.intro ((hp.2 h1).2.2.1 h2).1 ?_
        refine zCl.use (c_X9_atTask v1 10 (u_X9_fill_h0_4 N v1 v2 v3 v4 σ)) (Nat.le_of_ble_eq_true rfl) ?_
        rintro _ σz ⟨rfl, hz⟩
        subst σz
        refine And.intro ((hp.2 h1).2.2.1 h2).2.1 ?_
        refine And.intro ((hp.2 h1).2.2.1 h2).2.1 ?_
        refine zCl.use (c_X9_tellTrap 1 v1 v4 v1 N (u_X9_fill_h0_5 N v1 v2 v3 v4 σ) ((hp.2 h1).2.2.1 h2).2.2) (Nat.le_of_ble_eq_true rfl) ?_
        rintro _ σz ⟨rfl, hz⟩
        subst σz
        exact And.intro rfl (And.intro rfl ⟨rfl, by rw [l_X9_fill, if_neg h1, if_pos h2] <;> rfl⟩)
      · refine zCl.use (c_X9_behind v2 (-v4) σ ((hp.2 h1).2.2.2 h2).1) (Nat.le_of_ble_eq_true rfl) ?_
        rintro _ σz ⟨rfl, hz⟩
        subst σz
        refine zCl.use (c_X9_frames v1 σ ((hp.2 h1).2.2.2 h2).2.1) (Nat.le_of_ble_eq_true rfl) ?_
        rintro _ σz ⟨rfl, hz⟩
        subst σz
        refine zCl.use (c_X9_place (f_X9_behind v2 (-v4) σ) v1 ((f_X9_frames v1 σ) - v4) σ ((hp.2 h1).2.2.2 h2).2.2.1) (Nat.le_of_ble_eq_true rfl) ?_
        rintro _ σz ⟨rfl, hz⟩
        subst σz
        refine zWp.use (ih v1 v2 v3 (v4 + 1) (u_X9_fill_h0_7 N v1 v2 v3 v4 σ) ((hp.2 h1).2.2.2 h2).2.2.2) (And.intro rfl (And.intro rfl (And.intro rfl (And.intro rfl (And.intro rfl trivial))))) (fun vy σy hy => ?_)
        rw [l_X9_fill, if_neg h1, if_neg h2]; exact hy
def u_X9_fill_1 (x1 : Int32) (x2 : Int32) (N : Nat) (σ : zS) : zS := zuI σ 469 (f_X9_atTask x1 8).toNatClampNeg ((σ.1 469 (f_X9_atTask x1 8).toNatClampNeg) + 1)
def u_X9_fill_2 (x1 : Int32) (x2 : Int32) (N : Nat) (σ : zS) : zS := (r_X9_askUnder x1 (u_X9_fill_1 x1 x2 N σ)).2
def u_X9_fill_3 (x1 : Int32) (x2 : Int32) (N : Nat) (σ : zS) : zS := s_X9_come x1 x2 (u_X9_fill_2 x1 x2 N σ)
def s_X9_fill (x1 : Int32) (x2 : Int32) (N : Nat) (σ : zS) : zS := l_X9_fill N N x1 x2 (f_X9_less ((r_X9_askUnder x1 (u_X9_fill_1 x1 x2 N σ)).1) (f_X9_frames x1 (u_X9_fill_2 x1 x2 N σ))) 1 (u_X9_fill_3 x1 x2 N σ)
def p_X9_fill (x1 : Int32) (x2 : Int32) (N : Nat) (σ : zS) : Prop := vp_in (f_X9_atTask x1 8) 14241 ∧ (p_X9_askUnder x1 (u_X9_fill_1 x1 x2 N σ) ∧ (p_X9_frames x1 (u_X9_fill_2 x1 x2 N σ) ∧ (p_X9_come x1 x2 (u_X9_fill_2 x1 x2 N σ) ∧ q_X9_fill N N x1 x2 (f_X9_less ((r_X9_askUnder x1 (u_X9_fill_1 x1 x2 N σ)).1) (f_X9_frames x1 (u_X9_fill_2 x1 x2 N σ))) 1 (u_X9_fill_3 x1 x2 N σ))))
set_option maxRecDepth 100000 in
set_option maxHeartbeats 1000000 in
theorem c_X9_fill {nx : Nat} (x1 : Int32) (x2 : Int32) (N : Nat) (σ : zS) (hp : p_X9_fill x1 x2 N σ) : zCl 4 zall nx zall nx 256 [.inr (9, 57, 468), .inl x1, .inl x2] σ (fun v σ1 => v = none ∧ σ1 = s_X9_fill x1 x2 N σ) := by
  refine zmeth (cd := kX9_fill) [38] 1000 (Nat.le_of_ble_eq_true rfl) rfl okX9_fill (Nat.le_refl _) (Nat.le_of_ble_eq_true rfl) ?_
  refine zCl.use (c_X9_atTask x1 8 σ) (Nat.le_of_ble_eq_true rfl) ?_
  rintro _ σz ⟨rfl, hz⟩
  subst σz
  refine And.intro hp.1 ?_
  refine And.intro hp.1 ?_
  refine zCl.use (c_X9_askUnder x1 (u_X9_fill_1 x1 x2 N σ) hp.2.1) (Nat.le_of_ble_eq_true rfl) ?_
  rintro _ σz ⟨rfl, hz⟩
  subst σz
  refine zCl.use (c_X9_frames x1 (u_X9_fill_2 x1 x2 N σ) hp.2.2.1) (Nat.le_of_ble_eq_true rfl) ?_
  rintro _ σz ⟨rfl, hz⟩
  subst σz
  refine zCl.use (c_X9_less ((r_X9_askUnder x1 (u_X9_fill_1 x1 x2 N σ)).1) (f_X9_frames x1 (u_X9_fill_2 x1 x2 N σ)) (u_X9_fill_2 x1 x2 N σ)) (Nat.le_of_ble_eq_true rfl) ?_
  rintro _ σz ⟨rfl, hz⟩
  subst σz
  refine zCl.use (c_X9_come x1 x2 (u_X9_fill_2 x1 x2 N σ) hp.2.2.2.1) (Nat.le_of_ble_eq_true rfl) ?_
  rintro _ σz ⟨rfl, hz⟩
  subst σz
  refine zWp.use ((w_X9_fill N N) x1 x2 (f_X9_less ((r_X9_askUnder x1 (u_X9_fill_1 x1 x2 N σ)).1) (f_X9_frames x1 (u_X9_fill_2 x1 x2 N σ))) 1 (u_X9_fill_3 x1 x2 N σ) hp.2.2.2.2) (And.intro rfl (And.intro rfl (And.intro rfl (And.intro rfl (And.intro rfl trivial))))) (fun vy σy hy => ?_)
  rw [s_X9_fill]; exact hy
def f_X9_isOver (x1 : Int32) (σ : zS) : Int32 := if (f_X9_state x1 σ) ≤ 1 then 0 else 1
def p_X9_isOver (x1 : Int32) (σ : zS) : Prop := p_X9_state x1 σ
set_option maxRecDepth 100000 in
set_option maxHeartbeats 1000000 in
theorem c_X9_isOver {nx : Nat} (x1 : Int32) (σ : zS) (hp : p_X9_isOver x1 σ) : zCl 3 zall nx zall nx 257 [.inr (9, 57, 468), .inl x1] σ (fun v σ1 => v = some (.inl (f_X9_isOver x1 σ)) ∧ σ1 = σ) := by
  refine zmeth (cd := kX9_isOver) [] 1000 (Nat.le_of_ble_eq_true rfl) rfl okX9_isOver (Nat.le_refl _) (Nat.le_of_ble_eq_true rfl) ?_
  refine zCl.use (c_X9_state x1 σ hp) (Nat.le_of_ble_eq_true rfl) ?_
  rintro _ σz ⟨rfl, hz⟩
  subst σz
  refine And.intro (fun (h1 : (f_X9_state x1 σ) ≤ 1) => ?_) (fun (h1 : ¬ (f_X9_state x1 σ) ≤ 1) => ?_)
  · exact And.intro rfl (And.intro rfl (And.intro (Or.inl rfl) ⟨by rw [f_X9_isOver, if_pos h1] <;> rfl, rfl⟩))
  · exact And.intro rfl (And.intro rfl (And.intro (Or.inr rfl) ⟨by rw [f_X9_isOver, if_neg h1] <;> rfl, rfl⟩))
theorem b_X9_isOver {x1 : Int32} {σ : zS} : f_X9_isOver x1 σ = 0 ∨ f_X9_isOver x1 σ = 1 := by
  unfold f_X9_isOver
  (repeat' split) <;> first | exact Or.inl rfl | exact Or.inr rfl
def u_X9_passOn_h0_1 (N : Nat) (v1 : Int32) (v2 : Int32) (σ : zS) : zS := zuI σ 469 3 ((v1 + v2) - (v1 + v2) / (f_X9_many σ) * (f_X9_many σ))
def l_X9_passOn (N : Nat) : Nat → Int32 → Int32 → zS → zS
  | 0, _, _, σ => σ
  | n + 1, v1, v2, σ => if (f_X9_many σ) < v2 then σ else (if 0 ≤ (σ.1 469 3) then σ else (if (f_X9_isOver ((v1 + v2) - (v1 + v2) / (f_X9_many σ) * (f_X9_many σ)) σ) = 0 then (l_X9_passOn N n v1 (v2 + 1) (u_X9_passOn_h0_1 N v1 v2 σ)) else (l_X9_passOn N n v1 (v2 + 1) σ)))
def q_X9_passOn (N : Nat) : Nat → Int32 → Int32 → zS → Prop
  | 0, _, _, _ => False
  | n + 1, v1, v2, σ => p_X9_many σ ∧ (¬ (f_X9_many σ) < v2 → (¬ 0 ≤ (σ.1 469 3) → (p_X9_many σ ∧ (¬ (f_X9_many σ) = 0 ∧ (p_X9_isOver ((v1 + v2) - (v1 + v2) / (f_X9_many σ) * (f_X9_many σ)) σ ∧ ((¬ (f_X9_isOver ((v1 + v2) - (v1 + v2) / (f_X9_many σ) * (f_X9_many σ)) σ) = 0 → q_X9_passOn N n v1 (v2 + 1) σ) ∧ ((f_X9_isOver ((v1 + v2) - (v1 + v2) / (f_X9_many σ) * (f_X9_many σ)) σ) = 0 → (p_X9_many σ ∧ q_X9_passOn N n v1 (v2 + 1) (u_X9_passOn_h0_1 N v1 v2 σ)))))))))
set_option maxRecDepth 100000 in
set_option maxHeartbeats 1000000 in
theorem w_X9_passOn {nx : Nat} (N : Nat) : ∀ n : Nat, (∀ (v1 : Int32) (v2 : Int32) (σ : zS), q_X9_passOn N n v1 v2 σ → zWp 4 zall nx 258 (fun v σ1 => v = none ∧ σ1 = l_X9_passOn N n v1 v2 σ) zall nx 23 [some (.inr (9, 57, 468)), some (.inl v1), some (.inl v2)] [] σ) := by
  intro n
  induction n with
  | zero => exact fun _ _ _ h => h.elim
  | succ n ih =>
    intro v1 v2 σ hp
    rw [q_X9_passOn] at hp
    refine zvc_sound (cd := kX9_passOn) (cs := [23]) rfl okX9_passOn 1000 _ _ 23 (zseek kX9_passOn 23) _ _ _ zseek_sub ?_
    refine zCl.use (c_X9_many σ hp.1) (Nat.le_of_ble_eq_true rfl) ?_
    rintro _ σz ⟨rfl, hz⟩
    subst σz
    refine And.intro (fun (h1 : (f_X9_many σ) < v2) => ?_) (fun (h1 : ¬ (f_X9_many σ) < v2) => ?_)
    · exact And.intro rfl (And.intro rfl ⟨rfl, by rw [l_X9_passOn, if_pos h1] <;> rfl⟩)
    · refine And.intro (vp_in_iff.mpr (by decide)) ?_
      refine And.intro (fun (h2 : 0 ≤ (σ.1 469 3)) => ?_) (fun (h2 : ¬ 0 ≤ (σ.1 469 3)) => ?_)
      · exact And.intro rfl (And.intro rfl ⟨rfl, by rw [l_X9_passOn, if_neg h1, if_pos h2] <;> rfl⟩)
      · refine zCl.use (c_X9_many σ ((hp.2 h1) h2).1) (Nat.le_of_ble_eq_true rfl) ?_
        rintro _ σz ⟨rfl, hz⟩
        subst σz
        refine And.intro ((hp.2 h1) h2).2.1 ?_
        refine zCl.use (c_X9_isOver ((v1 + v2) - (v1 + v2) / (f_X9_many σ) * (f_X9_many σ)) σ ((hp.2 h1) h2).2.2.1) (Nat.le_of_ble_eq_true rfl) ?_
        rintro _ σz ⟨rfl, hz⟩
        subst σz
        refine And.intro (fun (h3 : ¬ (f_X9_isOver ((v1 + v2) - (v1 + v2) / (f_X9_many σ) * (f_X9_many σ)) σ) = 0) => ?_) (fun (h3 : (f_X9_isOver ((v1 + v2) - (v1 + v2) / (f_X9_many σ) * (f_X9_many σ)) σ) = 0) => ?_)
        · refine zWp.use (ih v1 (v2 + 1) σ (((hp.2 h1) h2).2.2.2.1 h3)) (And.intro rfl (And.intro rfl (And.intro rfl trivial))) (fun vy σy hy => ?_)
          rw [l_X9_passOn, if_neg h1, if_neg h2, if_neg h3]; exact hy
        · refine zCl.use (c_X9_many σ (((hp.2 h1) h2).2.2.2.2 h3).1) (Nat.le_of_ble_eq_true rfl) ?_
          rintro _ σz ⟨rfl, hz⟩
          subst σz
          refine And.intro ((hp.2 h1) h2).2.1 ?_
          refine And.intro (vp_in_iff.mpr (by decide)) ?_
          refine zWp.use (ih v1 (v2 + 1) (u_X9_passOn_h0_1 N v1 v2 σ) (((hp.2 h1) h2).2.2.2.2 h3).2) (And.intro rfl (And.intro rfl (And.intro rfl trivial))) (fun vy σy hy => ?_)
          rw [l_X9_passOn, if_neg h1, if_neg h2, if_pos h3]; exact hy
def u_X9_passOn_1 (N : Nat) (σ : zS) : zS := zuI σ 469 3 (-1)
def u_X9_passOn_2 (N : Nat) (σ : zS) : zS := zuI (u_X9_passOn_1 N σ) 469 4 0
def s_X9_passOn (N : Nat) (σ : zS) : zS := l_X9_passOn N N (σ.1 469 3) 1 (u_X9_passOn_2 N σ)
def p_X9_passOn (N : Nat) (σ : zS) : Prop := q_X9_passOn N N (σ.1 469 3) 1 (u_X9_passOn_2 N σ)
set_option maxRecDepth 100000 in
set_option maxHeartbeats 1000000 in
theorem c_X9_passOn {nx : Nat} (N : Nat) (σ : zS) (hp : p_X9_passOn N σ) : zCl 4 zall nx zall nx 258 [.inr (9, 57, 468)] σ (fun v σ1 => v = none ∧ σ1 = s_X9_passOn N σ) := by
  refine zmeth (cd := kX9_passOn) [23] 1000 (Nat.le_of_ble_eq_true rfl) rfl okX9_passOn (Nat.le_refl _) (Nat.le_of_ble_eq_true rfl) ?_
  refine And.intro (vp_in_iff.mpr (by decide)) ?_
  refine And.intro (vp_in_iff.mpr (by decide)) ?_
  refine And.intro (vp_in_iff.mpr (by decide)) ?_
  refine zWp.use ((w_X9_passOn N N) (σ.1 469 3) 1 (u_X9_passOn_2 N σ) hp) (And.intro rfl (And.intro rfl (And.intro rfl trivial))) (fun vy σy hy => ?_)
  rw [s_X9_passOn]; exact hy
def f_X9_cost (σ : zS) : Int32 := ((σ.1 469 1) * (σ.1 469 8)) + ((σ.1 469 2) * (σ.1 469 9))
set_option maxRecDepth 100000 in
set_option maxHeartbeats 1000000 in
theorem c_X9_cost {nx : Nat} (σ : zS) : zCl 1 zall nx zall nx 261 [.inr (9, 57, 468)] σ (fun v σ1 => v = some (.inl (f_X9_cost σ)) ∧ σ1 = σ) := by
  refine zmeth (cd := kX9_cost) [] 1000 (Nat.le_of_ble_eq_true rfl) rfl okX9_cost (Nat.le_refl _) (Nat.le_of_ble_eq_true rfl) ?_
  refine And.intro (vp_in_iff.mpr (by decide)) ?_
  refine And.intro (vp_in_iff.mpr (by decide)) ?_
  refine And.intro (vp_in_iff.mpr (by decide)) ?_
  refine And.intro (vp_in_iff.mpr (by decide)) ?_
  exact And.intro rfl (And.intro rfl ⟨by rw [f_X9_cost] <;> rfl, rfl⟩)
def f_X9_isWay (x1 : Int32) (x2 : Int32) : Int32 := if x1 = 0 then 1 else (if x1 = 2 then 1 else (if x1 = 1 then (if (f_X9_isIn x2 1 8) = 0 then (if x1 = 3 then (if (f_X9_isIn x2 1 16) = 0 then 0 else 1) else 0) else 1) else (if x1 = 3 then (if (f_X9_isIn x2 1 16) = 0 then 0 else 1) else 0)))
set_option maxRecDepth 100000 in
set_option maxHeartbeats 1000000 in
theorem c_X9_isWay {cp : Nat → Bool} {nx : Nat} (x1 : Int32) (x2 : Int32) (σ : zS) : zCl 2 cp nx cp nx 263 [.inl x1, .inl x2] σ (fun v σ1 => v = some (.inl (f_X9_isWay x1 x2)) ∧ σ1 = σ) := by
  refine zmeth (cd := kX9_isWay) [] 1000 (Nat.le_of_ble_eq_true rfl) rfl okX9_isWay (Nat.le_refl _) (Nat.le_of_ble_eq_true rfl) ?_
  refine And.intro (fun (h1 : x1 = 0) => ?_) (fun (h1 : ¬ x1 = 0) => ?_)
  · exact And.intro rfl (And.intro rfl (And.intro (Or.inr rfl) ⟨by rw [f_X9_isWay, if_pos h1] <;> rfl, rfl⟩))
  · refine And.intro (fun (h2 : x1 = 2) => ?_) (fun (h2 : ¬ x1 = 2) => ?_)
    · exact And.intro rfl (And.intro rfl (And.intro (Or.inr rfl) ⟨by rw [f_X9_isWay, if_neg h1, if_pos h2] <;> rfl, rfl⟩))
    · refine And.intro (fun (h3 : ¬ x1 = 1) => ?_) (fun (h3 : x1 = 1) => ?_)
      · refine And.intro (fun (h4 : ¬ x1 = 3) => ?_) (fun (h4 : x1 = 3) => ?_)
        · exact And.intro rfl (And.intro rfl (And.intro (Or.inl rfl) ⟨by rw [f_X9_isWay, if_neg h1, if_neg h2, if_neg h3, if_neg h4] <;> rfl, rfl⟩))
        · refine zCl.use (c_X9_isIn x2 1 16 σ) (Nat.le_of_ble_eq_true rfl) ?_
          rintro _ σz ⟨rfl, hz⟩
          subst σz
          refine And.intro (fun (h5 : (f_X9_isIn x2 1 16) = 0) => ?_) (fun (h5 : ¬ (f_X9_isIn x2 1 16) = 0) => ?_)
          · exact And.intro rfl (And.intro rfl (And.intro (Or.inl rfl) ⟨by rw [f_X9_isWay, if_neg h1, if_neg h2, if_neg h3, if_pos h4, if_pos h5] <;> rfl, rfl⟩))
          · exact And.intro rfl (And.intro rfl (And.intro (Or.inr rfl) ⟨by rw [f_X9_isWay, if_neg h1, if_neg h2, if_neg h3, if_pos h4, if_neg h5] <;> rfl, rfl⟩))
      · refine zCl.use (c_X9_isIn x2 1 8 σ) (Nat.le_of_ble_eq_true rfl) ?_
        rintro _ σz ⟨rfl, hz⟩
        subst σz
        refine And.intro (fun (h6 : ¬ (f_X9_isIn x2 1 8) = 0) => ?_) (fun (h6 : (f_X9_isIn x2 1 8) = 0) => ?_)
        · exact And.intro rfl (And.intro rfl (And.intro (Or.inr rfl) ⟨by rw [f_X9_isWay, if_neg h1, if_neg h2, if_pos h3, if_neg h6] <;> rfl, rfl⟩))
        · refine And.intro (fun (h7 : ¬ x1 = 3) => ?_) (fun (h7 : x1 = 3) => ?_)
          · exact And.intro rfl (And.intro rfl (And.intro (Or.inl rfl) ⟨by rw [f_X9_isWay, if_neg h1, if_neg h2, if_pos h3, if_pos h6, if_neg h7] <;> rfl, rfl⟩))
          · refine zCl.use (c_X9_isIn x2 1 16 σ) (Nat.le_of_ble_eq_true rfl) ?_
            rintro _ σz ⟨rfl, hz⟩
            subst σz
            refine And.intro (fun (h8 : (f_X9_isIn x2 1 16) = 0) => ?_) (fun (h8 : ¬ (f_X9_isIn x2 1 16) = 0) => ?_)
            · exact And.intro rfl (And.intro rfl (And.intro (Or.inl rfl) ⟨by rw [f_X9_isWay, if_neg h1, if_neg h2, if_pos h3, if_pos h6, if_pos h7, if_pos h8] <;> rfl, rfl⟩))
            · exact And.intro rfl (And.intro rfl (And.intro (Or.inr rfl) ⟨by rw [f_X9_isWay, if_neg h1, if_neg h2, if_pos h3, if_pos h6, if_pos h7, if_neg h8] <;> rfl, rfl⟩))
theorem b_X9_isWay {x1 : Int32} {x2 : Int32} : f_X9_isWay x1 x2 = 0 ∨ f_X9_isWay x1 x2 = 1 := by
  unfold f_X9_isWay
  (repeat' split) <;> first | exact Or.inl rfl | exact Or.inr rfl
def u_X9_setWay_h0_1 (N : Nat) (v1 : Int32) (v2 : Int32) (v3 : Int32) (σ : zS) : zS := zuI σ 469 (f_X9_atTask v3 5).toNatClampNeg 1
def u_X9_setWay_h0_2 (N : Nat) (v1 : Int32) (v2 : Int32) (v3 : Int32) (σ : zS) : zS := zuI (u_X9_setWay_h0_1 N v1 v2 v3 σ) 469 (f_X9_atTask v3 6).toNatClampNeg 0
def l_X9_setWay (N : Nat) : Nat → Int32 → Int32 → Int32 → zS → zS
  | 0, _, _, _, σ => σ
  | n + 1, v1, v2, v3, σ => if 4 ≤ v3 then σ else (l_X9_setWay N n v1 v2 (v3 + 1) (u_X9_setWay_h0_2 N v1 v2 v3 σ))
def q_X9_setWay (N : Nat) : Nat → Int32 → Int32 → Int32 → zS → Prop
  | 0, _, _, _, _ => False
  | n + 1, v1, v2, v3, σ => ¬ 4 ≤ v3 → (vp_in (f_X9_atTask v3 5) 14241 ∧ (vp_in (f_X9_atTask v3 6) 14241 ∧ q_X9_setWay N n v1 v2 (v3 + 1) (u_X9_setWay_h0_2 N v1 v2 v3 σ)))
set_option maxRecDepth 100000 in
set_option maxHeartbeats 1000000 in
theorem w_X9_setWay {nx : Nat} (N : Nat) : ∀ n : Nat, (∀ (v1 : Int32) (v2 : Int32) (v3 : Int32) (σ : zS), q_X9_setWay N n v1 v2 v3 σ → zWp 2 zall nx 264 (fun v σ1 => v = none ∧ σ1 = l_X9_setWay N n v1 v2 v3 σ) zall nx 31 [some (.inr (9, 57, 468)), some (.inl v1), some (.inl v2), some (.inl v3)] [] σ) := by
  intro n
  induction n with
  | zero => exact fun _ _ _ _ h => h.elim
  | succ n ih =>
    intro v1 v2 v3 σ hp
    rw [q_X9_setWay] at hp
    refine zvc_sound (cd := kX9_setWay) (cs := [31]) rfl okX9_setWay 1000 _ _ 31 (zseek kX9_setWay 31) _ _ _ zseek_sub ?_
    refine And.intro (fun (h1 : 4 ≤ v3) => ?_) (fun (h1 : ¬ 4 ≤ v3) => ?_)
    · exact And.intro rfl (And.intro rfl ⟨rfl, by rw [l_X9_setWay, if_pos h1] <;> rfl⟩)
    · refine zCl.use (c_X9_atTask v3 5 σ) (Nat.le_of_ble_eq_true rfl) ?_
      rintro _ σz ⟨rfl, hz⟩
      subst σz
      refine And.intro (hp h1).1 ?_
      refine zCl.use (c_X9_atTask v3 6 (u_X9_setWay_h0_1 N v1 v2 v3 σ)) (Nat.le_of_ble_eq_true rfl) ?_
      rintro _ σz ⟨rfl, hz⟩
      subst σz
      refine And.intro (hp h1).2.1 ?_
      refine zWp.use (ih v1 v2 (v3 + 1) (u_X9_setWay_h0_2 N v1 v2 v3 σ) (hp h1).2.2) (And.intro rfl (And.intro rfl (And.intro rfl (And.intro rfl trivial)))) (fun vy σy hy => ?_)
      rw [l_X9_setWay, if_neg h1]; exact hy
def u_X9_setWay_1 (x1 : Int32) (x2 : Int32) (N : Nat) (σ : zS) : zS := zuI σ 469 6 x1
def u_X9_setWay_2 (x1 : Int32) (x2 : Int32) (N : Nat) (σ : zS) : zS := zuI (u_X9_setWay_1 x1 x2 N σ) 469 7 0
def u_X9_setWay_3 (x1 : Int32) (x2 : Int32) (N : Nat) (σ : zS) : zS := zuI (u_X9_setWay_1 x1 x2 N σ) 469 7 x2
def u_X9_setWay_4 (x1 : Int32) (x2 : Int32) (N : Nat) (σ : zS) : zS := zuI (u_X9_setWay_1 x1 x2 N σ) 469 7 0
def s_X9_setWay (x1 : Int32) (x2 : Int32) (N : Nat) (σ : zS) : zS := if x1 = 0 then (l_X9_setWay N N x1 x2 0 (u_X9_setWay_2 x1 x2 N σ)) else (if x1 = 2 then (l_X9_setWay N N x1 x2 0 (u_X9_setWay_4 x1 x2 N σ)) else (l_X9_setWay N N x1 x2 0 (u_X9_setWay_3 x1 x2 N σ)))
def p_X9_setWay (x1 : Int32) (x2 : Int32) (N : Nat) (σ : zS) : Prop := (x1 = 0 → q_X9_setWay N N x1 x2 0 (u_X9_setWay_2 x1 x2 N σ)) ∧ (¬ x1 = 0 → ((¬ x1 = 2 → q_X9_setWay N N x1 x2 0 (u_X9_setWay_3 x1 x2 N σ)) ∧ (x1 = 2 → q_X9_setWay N N x1 x2 0 (u_X9_setWay_4 x1 x2 N σ))))
set_option maxRecDepth 100000 in
set_option maxHeartbeats 1000000 in
theorem c_X9_setWay {nx : Nat} (x1 : Int32) (x2 : Int32) (N : Nat) (σ : zS) (hp : p_X9_setWay x1 x2 N σ) : zCl 2 zall nx zall nx 264 [.inr (9, 57, 468), .inl x1, .inl x2] σ (fun v σ1 => v = none ∧ σ1 = s_X9_setWay x1 x2 N σ) := by
  refine zmeth (cd := kX9_setWay) [31] 1000 (Nat.le_of_ble_eq_true rfl) rfl okX9_setWay (Nat.le_refl _) (Nat.le_of_ble_eq_true rfl) ?_
  refine And.intro (vp_in_iff.mpr (by decide)) ?_
  refine And.intro (fun (h1 : x1 = 0) => ?_) (fun (h1 : ¬ x1 = 0) => ?_)
  · refine And.intro (vp_in_iff.mpr (by decide)) ?_
    refine zWp.use ((w_X9_setWay N N) x1 x2 0 (u_X9_setWay_2 x1 x2 N σ) (hp.1 h1)) (And.intro rfl (And.intro rfl (And.intro rfl (And.intro rfl trivial)))) (fun vy σy hy => ?_)
    rw [s_X9_setWay, if_pos h1]; exact hy
  · refine And.intro (fun (h2 : ¬ x1 = 2) => ?_) (fun (h2 : x1 = 2) => ?_)
    · refine And.intro (vp_in_iff.mpr (by decide)) ?_
      refine zWp.use ((w_X9_setWay N N) x1 x2 0 (u_X9_setWay_3 x1 x2 N σ) ((hp.2 h1).1 h2)) (And.intro rfl (And.intro rfl (And.intro rfl (And.intro rfl trivial)))) (fun vy σy hy => ?_)
      rw [s_X9_setWay, if_neg h1, if_neg h2]; exact hy
    · refine And.intro (vp_in_iff.mpr (by decide)) ?_
      refine zWp.use ((w_X9_setWay N N) x1 x2 0 (u_X9_setWay_4 x1 x2 N σ) ((hp.2 h1).2 h2)) (And.intro rfl (And.intro rfl (And.intro rfl (And.intro rfl trivial)))) (fun vy σy hy => ?_)
      rw [s_X9_setWay, if_neg h1, if_pos h2]; exact hy
def f_X9_task (x1 : Int32) (x2 : Int32) (σ : zS) : Int32 := if (f_X9_isTask x1 σ) = 0 then (-100) else (if x2 = 0 then (f_X9_functionOf x1 σ) else (if (f_X9_isIn x2 1 11) = 0 then (-100) else (σ.1 469 (f_X9_atTask x1 (x2 - 1)).toNatClampNeg)))
def p_X9_task (x1 : Int32) (x2 : Int32) (σ : zS) : Prop := p_X9_isTask x1 σ ∧ (¬ (f_X9_isTask x1 σ) = 0 → ((¬ x2 = 0 → (¬ (f_X9_isIn x2 1 11) = 0 → vp_in (f_X9_atTask x1 (x2 - 1)) 14241)) ∧ (x2 = 0 → p_X9_functionOf x1 σ)))
set_option maxRecDepth 100000 in
set_option maxHeartbeats 1000000 in
theorem c_X9_task {nx : Nat} (x1 : Int32) (x2 : Int32) (σ : zS) (hp : p_X9_task x1 x2 σ) : zCl 3 zall nx zall nx 269 [.inr (9, 57, 468), .inl x1, .inl x2] σ (fun v σ1 => v = some (.inl (f_X9_task x1 x2 σ)) ∧ σ1 = σ) := by
  refine zmeth (cd := kX9_task) [] 1000 (Nat.le_of_ble_eq_true rfl) rfl okX9_task (Nat.le_refl _) (Nat.le_of_ble_eq_true rfl) ?_
  refine zCl.use (c_X9_isTask x1 σ hp.1) (Nat.le_of_ble_eq_true rfl) ?_
  rintro _ σz ⟨rfl, hz⟩
  subst σz
  refine And.intro (fun (h1 : ¬ (f_X9_isTask x1 σ) = 0) => ?_) (fun (h1 : (f_X9_isTask x1 σ) = 0) => ?_)
  · refine And.intro (fun (h2 : ¬ x2 = 0) => ?_) (fun (h2 : x2 = 0) => ?_)
    · refine zCl.use (c_X9_isIn x2 1 11 σ) (Nat.le_of_ble_eq_true rfl) ?_
      rintro _ σz ⟨rfl, hz⟩
      subst σz
      refine And.intro (fun (h3 : (f_X9_isIn x2 1 11) = 0) => ?_) (fun (h3 : ¬ (f_X9_isIn x2 1 11) = 0) => ?_)
      · exact And.intro rfl (And.intro rfl ⟨by rw [f_X9_task, if_neg h1, if_neg h2, if_pos h3] <;> rfl, rfl⟩)
      · refine zCl.use (c_X9_atTask x1 (x2 - 1) σ) (Nat.le_of_ble_eq_true rfl) ?_
        rintro _ σz ⟨rfl, hz⟩
        subst σz
        refine And.intro (((hp.2 h1).1 h2) h3) ?_
        exact And.intro rfl (And.intro rfl ⟨by rw [f_X9_task, if_neg h1, if_neg h2, if_neg h3] <;> rfl, rfl⟩)
    · refine zCl.use (c_X9_functionOf x1 σ ((hp.2 h1).2 h2)) (Nat.le_of_ble_eq_true rfl) ?_
      rintro _ σz ⟨rfl, hz⟩
      subst σz
      exact And.intro rfl (And.intro rfl ⟨by rw [f_X9_task, if_neg h1, if_pos h2] <;> rfl, rfl⟩)
  · exact And.intro rfl (And.intro rfl ⟨by rw [f_X9_task, if_pos h1] <;> rfl, rfl⟩)
def f_X9_result (x1 : Int32) (σ : zS) : Int32 := if (f_X9_isTask x1 σ) = 0 then 0 else (if (f_X9_state x1 σ) = 2 then (σ.1 469 (f_X9_atTask x1 11).toNatClampNeg) else 0)
def p_X9_result (x1 : Int32) (σ : zS) : Prop := p_X9_isTask x1 σ ∧ (¬ (f_X9_isTask x1 σ) = 0 → (p_X9_state x1 σ ∧ ((f_X9_state x1 σ) = 2 → vp_in (f_X9_atTask x1 11) 14241)))
set_option maxRecDepth 100000 in
set_option maxHeartbeats 1000000 in
theorem c_X9_result {nx : Nat} (x1 : Int32) (σ : zS) (hp : p_X9_result x1 σ) : zCl 3 zall nx zall nx 270 [.inr (9, 57, 468), .inl x1] σ (fun v σ1 => v = some (.inl (f_X9_result x1 σ)) ∧ σ1 = σ) := by
  refine zmeth (cd := kX9_result) [] 1000 (Nat.le_of_ble_eq_true rfl) rfl okX9_result (Nat.le_refl _) (Nat.le_of_ble_eq_true rfl) ?_
  refine zCl.use (c_X9_isTask x1 σ hp.1) (Nat.le_of_ble_eq_true rfl) ?_
  rintro _ σz ⟨rfl, hz⟩
  subst σz
  refine And.intro (fun (h1 : (f_X9_isTask x1 σ) = 0) => ?_) (fun (h1 : ¬ (f_X9_isTask x1 σ) = 0) => ?_)
  · exact And.intro rfl (And.intro rfl ⟨by rw [f_X9_result, if_pos h1] <;> rfl, rfl⟩)
  · refine zCl.use (c_X9_state x1 σ (hp.2 h1).1) (Nat.le_of_ble_eq_true rfl) ?_
    rintro _ σz ⟨rfl, hz⟩
    subst σz
    refine And.intro (fun (h2 : ¬ (f_X9_state x1 σ) = 2) => ?_) (fun (h2 : (f_X9_state x1 σ) = 2) => ?_)
    · exact And.intro rfl (And.intro rfl ⟨by rw [f_X9_result, if_neg h1, if_neg h2] <;> rfl, rfl⟩)
    · refine zCl.use (c_X9_atTask x1 11 σ) (Nat.le_of_ble_eq_true rfl) ?_
      rintro _ σz ⟨rfl, hz⟩
      subst σz
      refine And.intro ((hp.2 h1).2 h2) ?_
      exact And.intro rfl (And.intro rfl ⟨by rw [f_X9_result, if_neg h1, if_pos h2] <;> rfl, rfl⟩)
def f_X9_window (x1 : Int32) (x2 : Int32) (σ : zS) : Int32 := if (f_X9_isWindow x1 σ) = 0 then (-2) else (if (f_X9_isIn x2 0 1) = 0 then (-2) else (if x2 = 0 then (σ.1 469 (12 + x1).toNatClampNeg) else (σ.1 469 (24 + x1).toNatClampNeg)))
def p_X9_window (x1 : Int32) (x2 : Int32) (σ : zS) : Prop := p_X9_isWindow x1 σ ∧ (¬ (f_X9_isWindow x1 σ) = 0 → (¬ (f_X9_isIn x2 0 1) = 0 → ((¬ x2 = 0 → vp_in (24 + x1) 14241) ∧ (x2 = 0 → vp_in (12 + x1) 14241))))
set_option maxRecDepth 100000 in
set_option maxHeartbeats 1000000 in
theorem c_X9_window {nx : Nat} (x1 : Int32) (x2 : Int32) (σ : zS) (hp : p_X9_window x1 x2 σ) : zCl 3 zall nx zall nx 271 [.inr (9, 57, 468), .inl x1, .inl x2] σ (fun v σ1 => v = some (.inl (f_X9_window x1 x2 σ)) ∧ σ1 = σ) := by
  refine zmeth (cd := kX9_window) [] 1000 (Nat.le_of_ble_eq_true rfl) rfl okX9_window (Nat.le_refl _) (Nat.le_of_ble_eq_true rfl) ?_
  refine zCl.use (c_X9_isWindow x1 σ hp.1) (Nat.le_of_ble_eq_true rfl) ?_
  rintro _ σz ⟨rfl, hz⟩
  subst σz
  refine And.intro (fun (h1 : (f_X9_isWindow x1 σ) = 0) => ?_) (fun (h1 : ¬ (f_X9_isWindow x1 σ) = 0) => ?_)
  · exact And.intro rfl (And.intro rfl ⟨by rw [f_X9_window, if_pos h1] <;> rfl, rfl⟩)
  · refine zCl.use (c_X9_isIn x2 0 1 σ) (Nat.le_of_ble_eq_true rfl) ?_
    rintro _ σz ⟨rfl, hz⟩
    subst σz
    refine And.intro (fun (h2 : (f_X9_isIn x2 0 1) = 0) => ?_) (fun (h2 : ¬ (f_X9_isIn x2 0 1) = 0) => ?_)
    · exact And.intro rfl (And.intro rfl ⟨by rw [f_X9_window, if_neg h1, if_pos h2] <;> rfl, rfl⟩)
    · refine And.intro (fun (h3 : ¬ x2 = 0) => ?_) (fun (h3 : x2 = 0) => ?_)
      · refine And.intro (((hp.2 h1) h2).1 h3) ?_
        exact And.intro rfl (And.intro rfl ⟨by rw [f_X9_window, if_neg h1, if_neg h2, if_neg h3] <;> rfl, rfl⟩)
      · refine And.intro (((hp.2 h1) h2).2 h3) ?_
        exact And.intro rfl (And.intro rfl ⟨by rw [f_X9_window, if_neg h1, if_neg h2, if_pos h3] <;> rfl, rfl⟩)
