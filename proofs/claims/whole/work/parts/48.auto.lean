/-! printed by wip/whole/dec2.py -/
def f_X9_isFree (x1 : Int32) (σ : zS) : Int32 := if (σ.1 469 (12 + x1).toNatClampNeg) = (-1) then 1 else 0
def p_X9_isFree (x1 : Int32) (σ : zS) : Prop := vp_in (12 + x1) 14241
set_option maxRecDepth 100000 in
set_option maxHeartbeats 1000000 in
theorem c_X9_isFree {nx : Nat} (x1 : Int32) (σ : zS) (hp : p_X9_isFree x1 σ) : zCl 1 zall nx zall nx 240 [.inr (9, 57, 468), .inl x1] σ (fun v σ1 => v = some (.inl (f_X9_isFree x1 σ)) ∧ σ1 = σ) := by
  refine zmeth (cd := kX9_isFree) [] 1000 (Nat.le_of_ble_eq_true rfl) rfl okX9_isFree (Nat.le_refl _) (Nat.le_of_ble_eq_true rfl) ?_
  refine And.intro hp ?_
  refine And.intro (fun (h1 : ¬ (σ.1 469 (12 + x1).toNatClampNeg) = (-1)) => ?_) (fun (h1 : (σ.1 469 (12 + x1).toNatClampNeg) = (-1)) => ?_)
  · exact And.intro rfl (And.intro rfl (And.intro (Or.inl rfl) ⟨by rw [f_X9_isFree, if_neg h1] <;> rfl, rfl⟩))
  · exact And.intro rfl (And.intro rfl (And.intro (Or.inr rfl) ⟨by rw [f_X9_isFree, if_pos h1] <;> rfl, rfl⟩))
theorem b_X9_isFree {x1 : Int32} {σ : zS} : f_X9_isFree x1 σ = 0 ∨ f_X9_isFree x1 σ = 1 := by
  unfold f_X9_isFree
  (repeat' split) <;> first | exact Or.inl rfl | exact Or.inr rfl
def f_X9_behind (x1 : Int32) (x2 : Int32) (σ : zS) : Int32 := if 0 ≤ ((x1 + x2) - (x1 + x2) / (f_X9_windowsNow σ) * (f_X9_windowsNow σ)) then ((x1 + x2) - (x1 + x2) / (f_X9_windowsNow σ) * (f_X9_windowsNow σ)) else (((x1 + x2) - (x1 + x2) / (f_X9_windowsNow σ) * (f_X9_windowsNow σ)) + (f_X9_windowsNow σ))
def p_X9_behind (x1 : Int32) (x2 : Int32) (σ : zS) : Prop := p_X9_windowsNow σ ∧ (¬ (f_X9_windowsNow σ) = 0 ∧ (¬ 0 ≤ ((x1 + x2) - (x1 + x2) / (f_X9_windowsNow σ) * (f_X9_windowsNow σ)) → p_X9_windowsNow σ))
set_option maxRecDepth 100000 in
set_option maxHeartbeats 1000000 in
theorem c_X9_behind {nx : Nat} (x1 : Int32) (x2 : Int32) (σ : zS) (hp : p_X9_behind x1 x2 σ) : zCl 2 zall nx zall nx 241 [.inr (9, 57, 468), .inl x1, .inl x2] σ (fun v σ1 => v = some (.inl (f_X9_behind x1 x2 σ)) ∧ σ1 = σ) := by
  refine zmeth (cd := kX9_behind) [] 1000 (Nat.le_of_ble_eq_true rfl) rfl okX9_behind (Nat.le_refl _) (Nat.le_of_ble_eq_true rfl) ?_
  refine zCl.use (c_X9_windowsNow σ hp.1) (Nat.le_of_ble_eq_true rfl) ?_
  rintro _ σz ⟨rfl, hz⟩
  subst σz
  refine And.intro hp.2.1 ?_
  refine And.intro (fun (h1 : 0 ≤ ((x1 + x2) - (x1 + x2) / (f_X9_windowsNow σ) * (f_X9_windowsNow σ))) => ?_) (fun (h1 : ¬ 0 ≤ ((x1 + x2) - (x1 + x2) / (f_X9_windowsNow σ) * (f_X9_windowsNow σ))) => ?_)
  · exact And.intro rfl (And.intro rfl ⟨by rw [f_X9_behind, if_pos h1] <;> rfl, rfl⟩)
  · refine zCl.use (c_X9_windowsNow σ (hp.2.2 h1)) (Nat.le_of_ble_eq_true rfl) ?_
    rintro _ σz ⟨rfl, hz⟩
    subst σz
    exact And.intro rfl (And.intro rfl ⟨by rw [f_X9_behind, if_neg h1] <;> rfl, rfl⟩)
def u_X9_place_1 (x1 : Int32) (x2 : Int32) (x3 : Int32) (σ : zS) : zS := zuI σ 469 (12 + x1).toNatClampNeg x2
def u_X9_place_2 (x1 : Int32) (x2 : Int32) (x3 : Int32) (σ : zS) : zS := zuI (u_X9_place_1 x1 x2 x3 σ) 469 (24 + x1).toNatClampNeg x3
def s_X9_place (x1 : Int32) (x2 : Int32) (x3 : Int32) (σ : zS) : zS := (u_X9_place_2 x1 x2 x3 σ)
def p_X9_place (x1 : Int32) (x2 : Int32) (x3 : Int32) (σ : zS) : Prop := vp_in (12 + x1) 14241 ∧ vp_in (24 + x1) 14241
set_option maxRecDepth 100000 in
set_option maxHeartbeats 1000000 in
theorem c_X9_place {nx : Nat} (x1 : Int32) (x2 : Int32) (x3 : Int32) (σ : zS) (hp : p_X9_place x1 x2 x3 σ) : zCl 1 zall nx zall nx 242 [.inr (9, 57, 468), .inl x1, .inl x2, .inl x3] σ (fun v σ1 => v = none ∧ σ1 = s_X9_place x1 x2 x3 σ) := by
  refine zmeth (cd := kX9_place) [] 1000 (Nat.le_of_ble_eq_true rfl) rfl okX9_place (Nat.le_refl _) (Nat.le_of_ble_eq_true rfl) ?_
  refine And.intro hp.1 ?_
  refine And.intro hp.2 ?_
  exact And.intro rfl (And.intro rfl ⟨rfl, by rw [s_X9_place] <;> rfl⟩)
def u_X9_free_1 (x1 : Int32) (σ : zS) : zS := s_X9_place x1 (-1) (-1) σ
def s_X9_free (x1 : Int32) (σ : zS) : zS := (u_X9_free_1 x1 σ)
def p_X9_free (x1 : Int32) (σ : zS) : Prop := p_X9_place x1 (-1) (-1) σ
set_option maxRecDepth 100000 in
set_option maxHeartbeats 1000000 in
theorem c_X9_free {nx : Nat} (x1 : Int32) (σ : zS) (hp : p_X9_free x1 σ) : zCl 2 zall nx zall nx 243 [.inr (9, 57, 468), .inl x1] σ (fun v σ1 => v = none ∧ σ1 = s_X9_free x1 σ) := by
  refine zmeth (cd := kX9_free) [] 1000 (Nat.le_of_ble_eq_true rfl) rfl okX9_free (Nat.le_refl _) (Nat.le_of_ble_eq_true rfl) ?_
  refine zCl.use (c_X9_place x1 (-1) (-1) σ hp) (Nat.le_of_ble_eq_true rfl) ?_
  rintro _ σz ⟨rfl, hz⟩
  subst σz
  exact And.intro rfl (And.intro rfl ⟨rfl, by rw [s_X9_free] <;> rfl⟩)
def f_X9_windowOf (x1 : Int32) (x2 : Int32) (σ : zS) : Int32 := f_X9_behind (σ.1 469 (f_X9_atTask x1 12).toNatClampNeg) (x2 - (f_X9_frames x1 σ)) σ
def p_X9_windowOf (x1 : Int32) (x2 : Int32) (σ : zS) : Prop := vp_in (f_X9_atTask x1 12) 14241 ∧ (p_X9_frames x1 σ ∧ p_X9_behind (σ.1 469 (f_X9_atTask x1 12).toNatClampNeg) (x2 - (f_X9_frames x1 σ)) σ)
set_option maxRecDepth 100000 in
set_option maxHeartbeats 1000000 in
theorem c_X9_windowOf {nx : Nat} (x1 : Int32) (x2 : Int32) (σ : zS) (hp : p_X9_windowOf x1 x2 σ) : zCl 3 zall nx zall nx 244 [.inr (9, 57, 468), .inl x1, .inl x2] σ (fun v σ1 => v = some (.inl (f_X9_windowOf x1 x2 σ)) ∧ σ1 = σ) := by
  refine zmeth (cd := kX9_windowOf) [] 1000 (Nat.le_of_ble_eq_true rfl) rfl okX9_windowOf (Nat.le_refl _) (Nat.le_of_ble_eq_true rfl) ?_
  refine zCl.use (c_X9_atTask x1 12 σ) (Nat.le_of_ble_eq_true rfl) ?_
  rintro _ σz ⟨rfl, hz⟩
  subst σz
  refine And.intro hp.1 ?_
  refine zCl.use (c_X9_frames x1 σ hp.2.1) (Nat.le_of_ble_eq_true rfl) ?_
  rintro _ σz ⟨rfl, hz⟩
  subst σz
  refine zCl.use (c_X9_behind (σ.1 469 (f_X9_atTask x1 12).toNatClampNeg) (x2 - (f_X9_frames x1 σ)) σ hp.2.2) (Nat.le_of_ble_eq_true rfl) ?_
  rintro _ σz ⟨rfl, hz⟩
  subst σz
  exact And.intro rfl (And.intro rfl ⟨by rw [f_X9_windowOf] <;> rfl, rfl⟩)
def u_X9_askOver_1 (x1 : Int32) (σ : zS) : zS := zuI σ 469 (f_X9_atTask x1 7).toNatClampNeg ((σ.1 469 (f_X9_atTask x1 7).toNatClampNeg) + 1)
def u_X9_askOver_2 (x1 : Int32) (σ : zS) : zS := zuI (u_X9_askOver_1 x1 σ) 469 (f_X9_atTask x1 5).toNatClampNeg (f_X9_less 3 (((u_X9_askOver_1 x1 σ).1 469 (f_X9_atTask x1 5).toNatClampNeg) + 1))
def u_X9_askOver_3 (x1 : Int32) (σ : zS) : zS := zuI (u_X9_askOver_1 x1 σ) 469 (f_X9_atTask x1 6).toNatClampNeg 1
def u_X9_askOver_4 (x1 : Int32) (σ : zS) : zS := zuI (u_X9_askOver_1 x1 σ) 469 (f_X9_atTask x1 6).toNatClampNeg (f_X9_less (2 * ((u_X9_askOver_1 x1 σ).1 469 (f_X9_atTask x1 6).toNatClampNeg)) ((u_X9_askOver_1 x1 σ).1 469 7))
def r_X9_askOver (x1 : Int32) (σ : zS) : Int32 × zS := if ((u_X9_askOver_1 x1 σ).1 469 6) = 0 then (1, (u_X9_askOver_1 x1 σ)) else (if ((u_X9_askOver_1 x1 σ).1 469 6) = 1 then ((u_X9_askOver_1 x1 σ).1 469 7, (u_X9_askOver_1 x1 σ)) else (if ((u_X9_askOver_1 x1 σ).1 469 6) = 2 then (((u_X9_askOver_1 x1 σ).1 469 (f_X9_atTask x1 5).toNatClampNeg) + 1, (u_X9_askOver_2 x1 σ)) else (if ((u_X9_askOver_1 x1 σ).1 469 (f_X9_atTask x1 6).toNatClampNeg) ≤ 0 then ((u_X9_askOver_3 x1 σ).1 469 (f_X9_atTask x1 6).toNatClampNeg, (u_X9_askOver_3 x1 σ)) else ((u_X9_askOver_4 x1 σ).1 469 (f_X9_atTask x1 6).toNatClampNeg, (u_X9_askOver_4 x1 σ)))))
def p_X9_askOver (x1 : Int32) (σ : zS) : Prop := vp_in (f_X9_atTask x1 7) 14241 ∧ (vp_in (f_X9_atTask x1 5) 14241 ∧ vp_in (f_X9_atTask x1 6) 14241)
set_option maxRecDepth 100000 in
set_option maxHeartbeats 1000000 in
theorem c_X9_askOver {nx : Nat} (x1 : Int32) (σ : zS) (hp : p_X9_askOver x1 σ) : zCl 2 zall nx zall nx 245 [.inr (9, 57, 468), .inl x1] σ (fun v σ1 => v = some (.inl ((r_X9_askOver x1 σ).1)) ∧ σ1 = (r_X9_askOver x1 σ).2) := by
  refine zmeth (cd := kX9_askOver) [] 1000 (Nat.le_of_ble_eq_true rfl) rfl okX9_askOver (Nat.le_refl _) (Nat.le_of_ble_eq_true rfl) ?_
  refine zCl.use (c_X9_atTask x1 7 σ) (Nat.le_of_ble_eq_true rfl) ?_
  rintro _ σz ⟨rfl, hz⟩
  subst σz
  refine And.intro hp.1 ?_
  refine And.intro hp.1 ?_
  refine zCl.use (c_X9_atTask x1 5 (u_X9_askOver_1 x1 σ)) (Nat.le_of_ble_eq_true rfl) ?_
  rintro _ σz ⟨rfl, hz⟩
  subst σz
  refine And.intro hp.2.1 ?_
  refine zCl.use (c_X9_atTask x1 6 (u_X9_askOver_1 x1 σ)) (Nat.le_of_ble_eq_true rfl) ?_
  rintro _ σz ⟨rfl, hz⟩
  subst σz
  refine And.intro hp.2.2 ?_
  refine And.intro (vp_in_iff.mpr (by decide)) ?_
  refine And.intro (fun (h1 : ((u_X9_askOver_1 x1 σ).1 469 6) = 0) => ?_) (fun (h1 : ¬ ((u_X9_askOver_1 x1 σ).1 469 6) = 0) => ?_)
  · exact And.intro rfl (And.intro rfl ⟨by rw [r_X9_askOver, if_pos h1] <;> rfl, by rw [r_X9_askOver, if_pos h1] <;> rfl⟩)
  · refine And.intro (fun (h2 : ((u_X9_askOver_1 x1 σ).1 469 6) = 1) => ?_) (fun (h2 : ¬ ((u_X9_askOver_1 x1 σ).1 469 6) = 1) => ?_)
    · refine And.intro (vp_in_iff.mpr (by decide)) ?_
      exact And.intro rfl (And.intro rfl ⟨by rw [r_X9_askOver, if_neg h1, if_pos h2] <;> rfl, by rw [r_X9_askOver, if_neg h1, if_pos h2] <;> rfl⟩)
    · refine And.intro (fun (h3 : ((u_X9_askOver_1 x1 σ).1 469 6) = 2) => ?_) (fun (h3 : ¬ ((u_X9_askOver_1 x1 σ).1 469 6) = 2) => ?_)
      · refine zCl.use (c_X9_atTask x1 5 (u_X9_askOver_1 x1 σ)) (Nat.le_of_ble_eq_true rfl) ?_
        rintro _ σz ⟨rfl, hz⟩
        subst σz
        refine zCl.use (c_X9_less 3 (((u_X9_askOver_1 x1 σ).1 469 (f_X9_atTask x1 5).toNatClampNeg) + 1) (u_X9_askOver_1 x1 σ)) (Nat.le_of_ble_eq_true rfl) ?_
        rintro _ σz ⟨rfl, hz⟩
        subst σz
        refine And.intro hp.2.1 ?_
        exact And.intro rfl (And.intro rfl ⟨by rw [r_X9_askOver, if_neg h1, if_neg h2, if_pos h3] <;> rfl, by rw [r_X9_askOver, if_neg h1, if_neg h2, if_pos h3] <;> rfl⟩)
      · refine zCl.use (c_X9_atTask x1 6 (u_X9_askOver_1 x1 σ)) (Nat.le_of_ble_eq_true rfl) ?_
        rintro _ σz ⟨rfl, hz⟩
        subst σz
        refine And.intro (fun (h4 : ((u_X9_askOver_1 x1 σ).1 469 (f_X9_atTask x1 6).toNatClampNeg) ≤ 0) => ?_) (fun (h4 : ¬ ((u_X9_askOver_1 x1 σ).1 469 (f_X9_atTask x1 6).toNatClampNeg) ≤ 0) => ?_)
        · refine And.intro hp.2.2 ?_
          refine zCl.use (c_X9_atTask x1 6 (u_X9_askOver_3 x1 σ)) (Nat.le_of_ble_eq_true rfl) ?_
          rintro _ σz ⟨rfl, hz⟩
          subst σz
          refine And.intro hp.2.2 ?_
          exact And.intro rfl (And.intro rfl ⟨by rw [r_X9_askOver, if_neg h1, if_neg h2, if_neg h3, if_pos h4] <;> rfl, by rw [r_X9_askOver, if_neg h1, if_neg h2, if_neg h3, if_pos h4] <;> rfl⟩)
        · refine And.intro (vp_in_iff.mpr (by decide)) ?_
          refine zCl.use (c_X9_less (2 * ((u_X9_askOver_1 x1 σ).1 469 (f_X9_atTask x1 6).toNatClampNeg)) ((u_X9_askOver_1 x1 σ).1 469 7) (u_X9_askOver_1 x1 σ)) (Nat.le_of_ble_eq_true rfl) ?_
          rintro _ σz ⟨rfl, hz⟩
          subst σz
          refine And.intro hp.2.2 ?_
          refine zCl.use (c_X9_atTask x1 6 (u_X9_askOver_4 x1 σ)) (Nat.le_of_ble_eq_true rfl) ?_
          rintro _ σz ⟨rfl, hz⟩
          subst σz
          refine And.intro hp.2.2 ?_
          exact And.intro rfl (And.intro rfl ⟨by rw [r_X9_askOver, if_neg h1, if_neg h2, if_neg h3, if_neg h4] <;> rfl, by rw [r_X9_askOver, if_neg h1, if_neg h2, if_neg h3, if_neg h4] <;> rfl⟩)
def u_X9_askUnder_1 (x1 : Int32) (σ : zS) : zS := zuI σ 469 (f_X9_atTask x1 5).toNatClampNeg (f_X9_more 0 ((σ.1 469 (f_X9_atTask x1 5).toNatClampNeg) - 1))
def u_X9_askUnder_2 (x1 : Int32) (σ : zS) : zS := zuI σ 469 (f_X9_atTask x1 6).toNatClampNeg (-1)
def u_X9_askUnder_3 (x1 : Int32) (σ : zS) : zS := zuI σ 469 (f_X9_atTask x1 6).toNatClampNeg (f_X9_more (2 * (σ.1 469 (f_X9_atTask x1 6).toNatClampNeg)) (-(σ.1 469 7)))
def r_X9_askUnder (x1 : Int32) (σ : zS) : Int32 × zS := if (σ.1 469 6) = 0 then (1, σ) else (if (σ.1 469 6) = 1 then (σ.1 469 7, σ) else (if (σ.1 469 6) = 2 then (4 - (σ.1 469 (f_X9_atTask x1 5).toNatClampNeg), (u_X9_askUnder_1 x1 σ)) else (if 0 ≤ (σ.1 469 (f_X9_atTask x1 6).toNatClampNeg) then (-((u_X9_askUnder_2 x1 σ).1 469 (f_X9_atTask x1 6).toNatClampNeg), (u_X9_askUnder_2 x1 σ)) else (-((u_X9_askUnder_3 x1 σ).1 469 (f_X9_atTask x1 6).toNatClampNeg), (u_X9_askUnder_3 x1 σ)))))
def p_X9_askUnder (x1 : Int32) (σ : zS) : Prop := vp_in (f_X9_atTask x1 5) 14241 ∧ vp_in (f_X9_atTask x1 6) 14241
set_option maxRecDepth 100000 in
set_option maxHeartbeats 1000000 in
theorem c_X9_askUnder {nx : Nat} (x1 : Int32) (σ : zS) (hp : p_X9_askUnder x1 σ) : zCl 2 zall nx zall nx 246 [.inr (9, 57, 468), .inl x1] σ (fun v σ1 => v = some (.inl ((r_X9_askUnder x1 σ).1)) ∧ σ1 = (r_X9_askUnder x1 σ).2) := by
  refine zmeth (cd := kX9_askUnder) [] 1000 (Nat.le_of_ble_eq_true rfl) rfl okX9_askUnder (Nat.le_refl _) (Nat.le_of_ble_eq_true rfl) ?_
  refine zCl.use (c_X9_atTask x1 5 σ) (Nat.le_of_ble_eq_true rfl) ?_
  rintro _ σz ⟨rfl, hz⟩
  subst σz
  refine And.intro hp.1 ?_
  refine zCl.use (c_X9_atTask x1 6 σ) (Nat.le_of_ble_eq_true rfl) ?_
  rintro _ σz ⟨rfl, hz⟩
  subst σz
  refine And.intro hp.2 ?_
  refine And.intro (vp_in_iff.mpr (by decide)) ?_
  refine And.intro (fun (h1 : (σ.1 469 6) = 0) => ?_) (fun (h1 : ¬ (σ.1 469 6) = 0) => ?_)
  · exact And.intro rfl (And.intro rfl ⟨by rw [r_X9_askUnder, if_pos h1] <;> rfl, by rw [r_X9_askUnder, if_pos h1] <;> rfl⟩)
  · refine And.intro (fun (h2 : (σ.1 469 6) = 1) => ?_) (fun (h2 : ¬ (σ.1 469 6) = 1) => ?_)
    · refine And.intro (vp_in_iff.mpr (by decide)) ?_
      exact And.intro rfl (And.intro rfl ⟨by rw [r_X9_askUnder, if_neg h1, if_pos h2] <;> rfl, by rw [r_X9_askUnder, if_neg h1, if_pos h2] <;> rfl⟩)
    · refine And.intro (fun (h3 : (σ.1 469 6) = 2) => ?_) (fun (h3 : ¬ (σ.1 469 6) = 2) => ?_)
      · refine zCl.use (c_X9_atTask x1 5 σ) (Nat.le_of_ble_eq_true rfl) ?_
        rintro _ σz ⟨rfl, hz⟩
        subst σz
        refine zCl.use (c_X9_more 0 ((σ.1 469 (f_X9_atTask x1 5).toNatClampNeg) - 1) σ) (Nat.le_of_ble_eq_true rfl) ?_
        rintro _ σz ⟨rfl, hz⟩
        subst σz
        refine And.intro hp.1 ?_
        exact And.intro rfl (And.intro rfl ⟨by rw [r_X9_askUnder, if_neg h1, if_neg h2, if_pos h3] <;> rfl, by rw [r_X9_askUnder, if_neg h1, if_neg h2, if_pos h3] <;> rfl⟩)
      · refine zCl.use (c_X9_atTask x1 6 σ) (Nat.le_of_ble_eq_true rfl) ?_
        rintro _ σz ⟨rfl, hz⟩
        subst σz
        refine And.intro (fun (h4 : 0 ≤ (σ.1 469 (f_X9_atTask x1 6).toNatClampNeg)) => ?_) (fun (h4 : ¬ 0 ≤ (σ.1 469 (f_X9_atTask x1 6).toNatClampNeg)) => ?_)
        · refine And.intro hp.2 ?_
          refine zCl.use (c_X9_atTask x1 6 (u_X9_askUnder_2 x1 σ)) (Nat.le_of_ble_eq_true rfl) ?_
          rintro _ σz ⟨rfl, hz⟩
          subst σz
          refine And.intro hp.2 ?_
          exact And.intro rfl (And.intro rfl ⟨by rw [r_X9_askUnder, if_neg h1, if_neg h2, if_neg h3, if_pos h4] <;> rfl, by rw [r_X9_askUnder, if_neg h1, if_neg h2, if_neg h3, if_pos h4] <;> rfl⟩)
        · refine And.intro (vp_in_iff.mpr (by decide)) ?_
          refine zCl.use (c_X9_more (2 * (σ.1 469 (f_X9_atTask x1 6).toNatClampNeg)) (-(σ.1 469 7)) σ) (Nat.le_of_ble_eq_true rfl) ?_
          rintro _ σz ⟨rfl, hz⟩
          subst σz
          refine And.intro hp.2 ?_
          refine zCl.use (c_X9_atTask x1 6 (u_X9_askUnder_3 x1 σ)) (Nat.le_of_ble_eq_true rfl) ?_
          rintro _ σz ⟨rfl, hz⟩
          subst σz
          refine And.intro hp.2 ?_
          exact And.intro rfl (And.intro rfl ⟨by rw [r_X9_askUnder, if_neg h1, if_neg h2, if_neg h3, if_neg h4] <;> rfl, by rw [r_X9_askUnder, if_neg h1, if_neg h2, if_neg h3, if_neg h4] <;> rfl⟩)
def u_X9_tellTrap_h0_1 (N : Nat) (v1 : Int32) (v2 : Int32) (v3 : Int32) (v4 : Int32) (v5 : Int32) (σ : zS) : zS := zuI σ 469 36 v1
def u_X9_tellTrap_h0_2 (N : Nat) (v1 : Int32) (v2 : Int32) (v3 : Int32) (v4 : Int32) (v5 : Int32) (σ : zS) : zS := zuI (u_X9_tellTrap_h0_1 N v1 v2 v3 v4 v5 σ) 469 37 v2
def u_X9_tellTrap_h0_3 (N : Nat) (v1 : Int32) (v2 : Int32) (v3 : Int32) (v4 : Int32) (v5 : Int32) (σ : zS) : zS := zuI (u_X9_tellTrap_h0_2 N v1 v2 v3 v4 v5 σ) 469 38 v3
def u_X9_tellTrap_h0_4 (N : Nat) (v1 : Int32) (v2 : Int32) (v3 : Int32) (v4 : Int32) (v5 : Int32) (σ : zS) : zS := zuI (u_X9_tellTrap_h0_3 N v1 v2 v3 v4 v5 σ) 469 39 v4
def u_X9_tellTrap_h0_5 (N : Nat) (v1 : Int32) (v2 : Int32) (v3 : Int32) (v4 : Int32) (v5 : Int32) (σ : zS) : zS := zuI (u_X9_tellTrap_h0_4 N v1 v2 v3 v4 v5 σ) 469 40 ((u_X9_tellTrap_h0_4 N v1 v2 v3 v4 v5 σ).1 469 0)
def u_X9_tellTrap_h0_6 (N : Nat) (v1 : Int32) (v2 : Int32) (v3 : Int32) (v4 : Int32) (v5 : Int32) (σ : zS) : zS := zuI (u_X9_tellTrap_h0_5 N v1 v2 v3 v4 v5 σ) 469 11 (f_X9_less 20 (((u_X9_tellTrap_h0_5 N v1 v2 v3 v4 v5 σ).1 469 11) + 1))
def u_X9_tellTrap_h0_7 (N : Nat) (v1 : Int32) (v2 : Int32) (v3 : Int32) (v4 : Int32) (v5 : Int32) (σ : zS) : zS := zuI (u_X9_tellTrap_h0_6 N v1 v2 v3 v4 v5 σ) 469 1 (((u_X9_tellTrap_h0_6 N v1 v2 v3 v4 v5 σ).1 469 1) + 1)
def u_X9_tellTrap_h0_8 (N : Nat) (v1 : Int32) (v2 : Int32) (v3 : Int32) (v4 : Int32) (v5 : Int32) (σ : zS) : zS := zuI (u_X9_tellTrap_h0_7 N v1 v2 v3 v4 v5 σ) 469 2 (((u_X9_tellTrap_h0_7 N v1 v2 v3 v4 v5 σ).1 469 2) + v3)
def u_X9_tellTrap_h0_9 (N : Nat) (v1 : Int32) (v2 : Int32) (v3 : Int32) (v4 : Int32) (v5 : Int32) (σ : zS) : zS := zuI σ 469 (36 + v5).toNatClampNeg (σ.1 469 ((36 + v5) - 5).toNatClampNeg)
def l_X9_tellTrap (N : Nat) : Nat → Int32 → Int32 → Int32 → Int32 → Int32 → zS → zS
  | 0, _, _, _, _, _, σ => σ
  | n + 1, v1, v2, v3, v4, v5, σ => if v5 < 5 then (u_X9_tellTrap_h0_8 N v1 v2 v3 v4 v5 σ) else (l_X9_tellTrap N n v1 v2 v3 v4 (v5 + (-1)) (u_X9_tellTrap_h0_9 N v1 v2 v3 v4 v5 σ))
def q_X9_tellTrap (N : Nat) : Nat → Int32 → Int32 → Int32 → Int32 → Int32 → zS → Prop
  | 0, _, _, _, _, _, _ => False
  | n + 1, v1, v2, v3, v4, v5, σ => ¬ v5 < 5 → (vp_in ((36 + v5) - 5) 14241 ∧ (vp_in (36 + v5) 14241 ∧ q_X9_tellTrap N n v1 v2 v3 v4 (v5 + (-1)) (u_X9_tellTrap_h0_9 N v1 v2 v3 v4 v5 σ)))
set_option maxRecDepth 100000 in
set_option maxHeartbeats 1000000 in
theorem w_X9_tellTrap {nx : Nat} (N : Nat) : ∀ n : Nat, (∀ (v1 : Int32) (v2 : Int32) (v3 : Int32) (v4 : Int32) (v5 : Int32) (σ : zS), q_X9_tellTrap N n v1 v2 v3 v4 v5 σ → zWp 2 zall nx 247 (fun v σ1 => v = none ∧ σ1 = l_X9_tellTrap N n v1 v2 v3 v4 v5 σ) zall nx 4 [some (.inr (9, 57, 468)), some (.inl v1), some (.inl v2), some (.inl v3), some (.inl v4), some (.inl v5)] [] σ) := by
  intro n
  induction n with
  | zero => exact fun _ _ _ _ _ _ h => h.elim
  | succ n ih =>
    intro v1 v2 v3 v4 v5 σ hp
    rw [q_X9_tellTrap] at hp
    refine zvc_sound (cd := kX9_tellTrap) (cs := [4]) rfl okX9_tellTrap 1000 _ _ 4 (zseek kX9_tellTrap 4) _ _ _ zseek_sub ?_
    refine And.intro (fun (h1 : v5 < 5) => ?_) (fun (h1 : ¬ v5 < 5) => ?_)
    · refine And.intro (vp_in_iff.mpr (by decide)) ?_
      refine And.intro (vp_in_iff.mpr (by decide)) ?_
      refine And.intro (vp_in_iff.mpr (by decide)) ?_
      refine And.intro (vp_in_iff.mpr (by decide)) ?_
      refine And.intro (vp_in_iff.mpr (by decide)) ?_
      refine And.intro (vp_in_iff.mpr (by decide)) ?_
      refine And.intro (vp_in_iff.mpr (by decide)) ?_
      refine zCl.use (c_X9_less 20 (((u_X9_tellTrap_h0_5 N v1 v2 v3 v4 v5 σ).1 469 11) + 1) (u_X9_tellTrap_h0_5 N v1 v2 v3 v4 v5 σ)) (Nat.le_of_ble_eq_true rfl) ?_
      rintro _ σz ⟨rfl, hz⟩
      subst σz
      refine And.intro (vp_in_iff.mpr (by decide)) ?_
      refine And.intro (vp_in_iff.mpr (by decide)) ?_
      refine And.intro (vp_in_iff.mpr (by decide)) ?_
      refine And.intro (vp_in_iff.mpr (by decide)) ?_
      refine And.intro (vp_in_iff.mpr (by decide)) ?_
      exact And.intro rfl (And.intro rfl ⟨rfl, by rw [l_X9_tellTrap, if_pos h1] <;> rfl⟩)
    · refine And.intro (hp h1).1 ?_
      refine And.intro (hp h1).2.1 ?_
      refine zWp.use (ih v1 v2 v3 v4 (v5 + (-1)) (u_X9_tellTrap_h0_9 N v1 v2 v3 v4 v5 σ) (hp h1).2.2) (And.intro rfl (And.intro rfl (And.intro rfl (And.intro rfl (And.intro rfl (And.intro rfl trivial)))))) (fun vy σy hy => ?_)
      rw [l_X9_tellTrap, if_neg h1]; exact hy
def s_X9_tellTrap (x1 : Int32) (x2 : Int32) (x3 : Int32) (x4 : Int32) (N : Nat) (σ : zS) : zS := l_X9_tellTrap N N x1 x2 x3 x4 99 σ
def p_X9_tellTrap (x1 : Int32) (x2 : Int32) (x3 : Int32) (x4 : Int32) (N : Nat) (σ : zS) : Prop := q_X9_tellTrap N N x1 x2 x3 x4 99 σ
set_option maxRecDepth 100000 in
set_option maxHeartbeats 1000000 in
theorem c_X9_tellTrap {nx : Nat} (x1 : Int32) (x2 : Int32) (x3 : Int32) (x4 : Int32) (N : Nat) (σ : zS) (hp : p_X9_tellTrap x1 x2 x3 x4 N σ) : zCl 2 zall nx zall nx 247 [.inr (9, 57, 468), .inl x1, .inl x2, .inl x3, .inl x4] σ (fun v σ1 => v = none ∧ σ1 = s_X9_tellTrap x1 x2 x3 x4 N σ) := by
  refine zmeth (cd := kX9_tellTrap) [4] 1000 (Nat.le_of_ble_eq_true rfl) rfl okX9_tellTrap (Nat.le_refl _) (Nat.le_of_ble_eq_true rfl) ?_
  refine zWp.use ((w_X9_tellTrap N N) x1 x2 x3 x4 99 σ hp) (And.intro rfl (And.intro rfl (And.intro rfl (And.intro rfl (And.intro rfl (And.intro rfl trivial)))))) (fun vy σy hy => ?_)
  rw [s_X9_tellTrap]; exact hy
def u_X9_makeRoom_h0_1 (N : Nat) (v1 : Int32) (v2 : Int32) (v3 : Int32) (v4 : Int32) (v5 : Int32) (v6 : Int32) (σ : zS) : zS := zuI σ 469 (f_X9_atTask v4 9).toNatClampNeg ((σ.1 469 (f_X9_atTask v4 9).toNatClampNeg) + v5)
def u_X9_makeRoom_h0_2 (N : Nat) (v1 : Int32) (v2 : Int32) (v3 : Int32) (v4 : Int32) (v5 : Int32) (v6 : Int32) (σ : zS) : zS := s_X9_tellTrap 0 v1 v5 v4 N (u_X9_makeRoom_h0_1 N v1 v2 v3 v4 v5 v6 σ)
def u_X9_makeRoom_h0_3 (N : Nat) (v1 : Int32) (v2 : Int32) (v3 : Int32) (v4 : Int32) (v5 : Int32) (v6 : Int32) (σ : zS) : zS := s_X9_free (f_X9_windowOf v4 (((f_X9_frames v4 σ) - (f_X9_resident v4 σ)) + 1) σ) σ
def u_X9_makeRoom_h0_4 (N : Nat) (v1 : Int32) (v2 : Int32) (v3 : Int32) (v4 : Int32) (v5 : Int32) (v6 : Int32) (σ : zS) : zS := zuI (u_X9_makeRoom_h0_3 N v1 v2 v3 v4 v5 v6 σ) 469 (f_X9_atTask v4 2).toNatClampNeg (((u_X9_makeRoom_h0_3 N v1 v2 v3 v4 v5 v6 σ).1 469 (f_X9_atTask v4 2).toNatClampNeg) - 1)
def l_X9_makeRoom (N : Nat) : Nat → Int32 → Int32 → Int32 → Int32 → Int32 → Int32 → zS → zS
  | 0, _, _, _, _, _, _, σ => σ
  | n + 1, v1, v2, v3, v4, v5, v6, σ => if v5 ≤ v6 then (u_X9_makeRoom_h0_2 N v1 v2 v3 v4 v5 v6 σ) else (l_X9_makeRoom N n v1 v2 v3 v4 v5 (v6 + 1) (u_X9_makeRoom_h0_4 N v1 v2 v3 v4 v5 v6 σ))
def q_X9_makeRoom (N : Nat) : Nat → Int32 → Int32 → Int32 → Int32 → Int32 → Int32 → zS → Prop
  | 0, _, _, _, _, _, _, _ => False
  | n + 1, v1, v2, v3, v4, v5, v6, σ => (v5 ≤ v6 → (vp_in (f_X9_atTask v4 9) 14241 ∧ p_X9_tellTrap 0 v1 v5 v4 N (u_X9_makeRoom_h0_1 N v1 v2 v3 v4 v5 v6 σ))) ∧ (¬ v5 ≤ v6 → (p_X9_frames v4 σ ∧ (p_X9_resident v4 σ ∧ (p_X9_windowOf v4 (((f_X9_frames v4 σ) - (f_X9_resident v4 σ)) + 1) σ ∧ (p_X9_free (f_X9_windowOf v4 (((f_X9_frames v4 σ) - (f_X9_resident v4 σ)) + 1) σ) σ ∧ (vp_in (f_X9_atTask v4 2) 14241 ∧ q_X9_makeRoom N n v1 v2 v3 v4 v5 (v6 + 1) (u_X9_makeRoom_h0_4 N v1 v2 v3 v4 v5 v6 σ)))))))
set_option maxRecDepth 100000 in
set_option maxHeartbeats 1000000 in
theorem w_X9_makeRoom {nx : Nat} (N : Nat) : ∀ n : Nat, (∀ (v1 : Int32) (v2 : Int32) (v3 : Int32) (v4 : Int32) (v5 : Int32) (v6 : Int32) (σ : zS), q_X9_makeRoom N n v1 v2 v3 v4 v5 v6 σ → zWp 4 zall nx 248 (fun v σ1 => v = none ∧ σ1 = l_X9_makeRoom N n v1 v2 v3 v4 v5 v6 σ) zall nx 55 [some (.inr (9, 57, 468)), some (.inl v1), some (.inl v2), some (.inl v3), some (.inl v4), some (.inl v5), some (.inl v6)] [] σ) := by
  intro n
  induction n with
  | zero => exact fun _ _ _ _ _ _ _ h => h.elim
  | succ n ih =>
    intro v1 v2 v3 v4 v5 v6 σ hp
    rw [q_X9_makeRoom] at hp
    refine zvc_sound (cd := kX9_makeRoom) (cs := [55]) rfl okX9_makeRoom 1000 _ _ 55 (zseek kX9_makeRoom 55) _ _ _ zseek_sub ?_
    refine And.intro (fun (h1 : v5 ≤ v6) => ?_) (fun (h1 : ¬ v5 ≤ v6) => ?_)
    · refine zCl.use (c_X9_atTask v4 9 σ) (Nat.le_of_ble_eq_true rfl) ?_
      rintro _ σz ⟨rfl, hz⟩
      subst σz
      refine And.intro (hp.1 h1).1 ?_
      refine And.intro (hp.1 h1).1 ?_
      refine zCl.use (c_X9_tellTrap 0 v1 v5 v4 N (u_X9_makeRoom_h0_1 N v1 v2 v3 v4 v5 v6 σ) (hp.1 h1).2) (Nat.le_of_ble_eq_true rfl) ?_
      rintro _ σz ⟨rfl, hz⟩
      subst σz
      exact And.intro rfl (And.intro rfl ⟨rfl, by rw [l_X9_makeRoom, if_pos h1] <;> rfl⟩)
    · refine zCl.use (c_X9_frames v4 σ (hp.2 h1).1) (Nat.le_of_ble_eq_true rfl) ?_
      rintro _ σz ⟨rfl, hz⟩
      subst σz
      refine zCl.use (c_X9_resident v4 σ (hp.2 h1).2.1) (Nat.le_of_ble_eq_true rfl) ?_
      rintro _ σz ⟨rfl, hz⟩
      subst σz
      refine zCl.use (c_X9_windowOf v4 (((f_X9_frames v4 σ) - (f_X9_resident v4 σ)) + 1) σ (hp.2 h1).2.2.1) (Nat.le_of_ble_eq_true rfl) ?_
      rintro _ σz ⟨rfl, hz⟩
      subst σz
      refine zCl.use (c_X9_free (f_X9_windowOf v4 (((f_X9_frames v4 σ) - (f_X9_resident v4 σ)) + 1) σ) σ (hp.2 h1).2.2.2.1) (Nat.le_of_ble_eq_true rfl) ?_
      rintro _ σz ⟨rfl, hz⟩
      subst σz
      refine zCl.use (c_X9_atTask v4 2 (u_X9_makeRoom_h0_3 N v1 v2 v3 v4 v5 v6 σ)) (Nat.le_of_ble_eq_true rfl) ?_
      rintro _ σz ⟨rfl, hz⟩
      subst σz
      refine And.intro (hp.2 h1).2.2.2.2.1 ?_
      refine And.intro (hp.2 h1).2.2.2.2.1 ?_
      refine zWp.use (ih v1 v2 v3 v4 v5 (v6 + 1) (u_X9_makeRoom_h0_4 N v1 v2 v3 v4 v5 v6 σ) (hp.2 h1).2.2.2.2.2) (And.intro rfl (And.intro rfl (And.intro rfl (And.intro rfl (And.intro rfl (And.intro rfl (And.intro rfl trivial))))))) (fun vy σy hy => ?_)
      rw [l_X9_makeRoom, if_neg h1]; exact hy
def u_X9_makeRoom_1 (x1 : Int32) (x2 : Int32) (x3 : Int32) (N : Nat) (σ : zS) : zS := (r_X9_askOver x1 σ).2
def s_X9_makeRoom (x1 : Int32) (x2 : Int32) (x3 : Int32) (N : Nat) (σ : zS) : zS := if (f_X9_isFree x2 σ) = 0 then (if x3 = 0 then (l_X9_makeRoom N N x1 x2 x3 (σ.1 469 (12 + x2).toNatClampNeg) (f_X9_less ((r_X9_askOver x1 σ).1) ((f_X9_resident (σ.1 469 (12 + x2).toNatClampNeg) (u_X9_makeRoom_1 x1 x2 x3 N σ)) - 0)) 0 (u_X9_makeRoom_1 x1 x2 x3 N σ)) else (if (σ.1 469 (12 + x2).toNatClampNeg) = x1 then (l_X9_makeRoom N N x1 x2 x3 (σ.1 469 (12 + x2).toNatClampNeg) (f_X9_less ((r_X9_askOver x1 σ).1) ((f_X9_resident (σ.1 469 (12 + x2).toNatClampNeg) (u_X9_makeRoom_1 x1 x2 x3 N σ)) - 1)) 0 (u_X9_makeRoom_1 x1 x2 x3 N σ)) else (l_X9_makeRoom N N x1 x2 x3 (σ.1 469 (12 + x2).toNatClampNeg) (f_X9_less ((r_X9_askOver x1 σ).1) ((f_X9_resident (σ.1 469 (12 + x2).toNatClampNeg) (u_X9_makeRoom_1 x1 x2 x3 N σ)) - 0)) 0 (u_X9_makeRoom_1 x1 x2 x3 N σ)))) else σ
def p_X9_makeRoom (x1 : Int32) (x2 : Int32) (x3 : Int32) (N : Nat) (σ : zS) : Prop := p_X9_isFree x2 σ ∧ ((f_X9_isFree x2 σ) = 0 → (vp_in (12 + x2) 14241 ∧ (p_X9_askOver x1 σ ∧ (p_X9_resident (σ.1 469 (12 + x2).toNatClampNeg) (u_X9_makeRoom_1 x1 x2 x3 N σ) ∧ ((x3 = 0 → q_X9_makeRoom N N x1 x2 x3 (σ.1 469 (12 + x2).toNatClampNeg) (f_X9_less ((r_X9_askOver x1 σ).1) ((f_X9_resident (σ.1 469 (12 + x2).toNatClampNeg) (u_X9_makeRoom_1 x1 x2 x3 N σ)) - 0)) 0 (u_X9_makeRoom_1 x1 x2 x3 N σ)) ∧ (¬ x3 = 0 → ((¬ (σ.1 469 (12 + x2).toNatClampNeg) = x1 → q_X9_makeRoom N N x1 x2 x3 (σ.1 469 (12 + x2).toNatClampNeg) (f_X9_less ((r_X9_askOver x1 σ).1) ((f_X9_resident (σ.1 469 (12 + x2).toNatClampNeg) (u_X9_makeRoom_1 x1 x2 x3 N σ)) - 0)) 0 (u_X9_makeRoom_1 x1 x2 x3 N σ)) ∧ ((σ.1 469 (12 + x2).toNatClampNeg) = x1 → q_X9_makeRoom N N x1 x2 x3 (σ.1 469 (12 + x2).toNatClampNeg) (f_X9_less ((r_X9_askOver x1 σ).1) ((f_X9_resident (σ.1 469 (12 + x2).toNatClampNeg) (u_X9_makeRoom_1 x1 x2 x3 N σ)) - 1)) 0 (u_X9_makeRoom_1 x1 x2 x3 N σ)))))))))
set_option maxRecDepth 100000 in
set_option maxHeartbeats 1000000 in
theorem c_X9_makeRoom {nx : Nat} (x1 : Int32) (x2 : Int32) (x3 : Int32) (N : Nat) (σ : zS) (hp : p_X9_makeRoom x1 x2 x3 N σ) : zCl 4 zall nx zall nx 248 [.inr (9, 57, 468), .inl x1, .inl x2, .inl x3] σ (fun v σ1 => v = none ∧ σ1 = s_X9_makeRoom x1 x2 x3 N σ) := by
  refine zmeth (cd := kX9_makeRoom) [55] 1000 (Nat.le_of_ble_eq_true rfl) rfl okX9_makeRoom (Nat.le_refl _) (Nat.le_of_ble_eq_true rfl) ?_
  refine zCl.use (c_X9_isFree x2 σ hp.1) (Nat.le_of_ble_eq_true rfl) ?_
  rintro _ σz ⟨rfl, hz⟩
  subst σz
  refine And.intro (fun (h1 : (f_X9_isFree x2 σ) = 0) => ?_) (fun (h1 : ¬ (f_X9_isFree x2 σ) = 0) => ?_)
  · refine And.intro (hp.2 h1).1 ?_
    refine zCl.use (c_X9_askOver x1 σ (hp.2 h1).2.1) (Nat.le_of_ble_eq_true rfl) ?_
    rintro _ σz ⟨rfl, hz⟩
    subst σz
    refine zCl.use (c_X9_resident (σ.1 469 (12 + x2).toNatClampNeg) (u_X9_makeRoom_1 x1 x2 x3 N σ) (hp.2 h1).2.2.1) (Nat.le_of_ble_eq_true rfl) ?_
    rintro _ σz ⟨rfl, hz⟩
    subst σz
    refine And.intro (fun (h2 : x3 = 0) => ?_) (fun (h2 : ¬ x3 = 0) => ?_)
    · refine zCl.use (c_X9_less ((r_X9_askOver x1 σ).1) ((f_X9_resident (σ.1 469 (12 + x2).toNatClampNeg) (u_X9_makeRoom_1 x1 x2 x3 N σ)) - 0) (u_X9_makeRoom_1 x1 x2 x3 N σ)) (Nat.le_of_ble_eq_true rfl) ?_
      rintro _ σz ⟨rfl, hz⟩
      subst σz
      refine zWp.use ((w_X9_makeRoom N N) x1 x2 x3 (σ.1 469 (12 + x2).toNatClampNeg) (f_X9_less ((r_X9_askOver x1 σ).1) ((f_X9_resident (σ.1 469 (12 + x2).toNatClampNeg) (u_X9_makeRoom_1 x1 x2 x3 N σ)) - 0)) 0 (u_X9_makeRoom_1 x1 x2 x3 N σ) ((hp.2 h1).2.2.2.1 h2)) (And.intro rfl (And.intro rfl (And.intro rfl (And.intro rfl (And.intro rfl (And.intro rfl (And.intro rfl trivial))))))) (fun vy σy hy => ?_)
      rw [s_X9_makeRoom, if_pos h1, if_pos h2]; exact hy
    · refine And.intro (fun (h3 : ¬ (σ.1 469 (12 + x2).toNatClampNeg) = x1) => ?_) (fun (h3 : (σ.1 469 (12 + x2).toNatClampNeg) = x1) => ?_)
      · refine zCl.use (c_X9_less ((r_X9_askOver x1 σ).1) ((f_X9_resident (σ.1 469 (12 + x2).toNatClampNeg) (u_X9_makeRoom_1 x1 x2 x3 N σ)) - 0) (u_X9_makeRoom_1 x1 x2 x3 N σ)) (Nat.le_of_ble_eq_true rfl) ?_
        rintro _ σz ⟨rfl, hz⟩
        subst σz
        refine zWp.use ((w_X9_makeRoom N N) x1 x2 x3 (σ.1 469 (12 + x2).toNatClampNeg) (f_X9_less ((r_X9_askOver x1 σ).1) ((f_X9_resident (σ.1 469 (12 + x2).toNatClampNeg) (u_X9_makeRoom_1 x1 x2 x3 N σ)) - 0)) 0 (u_X9_makeRoom_1 x1 x2 x3 N σ) (((hp.2 h1).2.2.2.2 h2).1 h3)) (And.intro rfl (And.intro rfl (And.intro rfl (And.intro rfl (And.intro rfl (And.intro rfl (And.intro rfl trivial))))))) (fun vy σy hy => ?_)
        rw [s_X9_makeRoom, if_pos h1, if_neg h2, if_neg h3]; exact hy
      · refine zCl.use (c_X9_less ((r_X9_askOver x1 σ).1) ((f_X9_resident (σ.1 469 (12 + x2).toNatClampNeg) (u_X9_makeRoom_1 x1 x2 x3 N σ)) - 1) (u_X9_makeRoom_1 x1 x2 x3 N σ)) (Nat.le_of_ble_eq_true rfl) ?_
        rintro _ σz ⟨rfl, hz⟩
        subst σz
        refine zWp.use ((w_X9_makeRoom N N) x1 x2 x3 (σ.1 469 (12 + x2).toNatClampNeg) (f_X9_less ((r_X9_askOver x1 σ).1) ((f_X9_resident (σ.1 469 (12 + x2).toNatClampNeg) (u_X9_makeRoom_1 x1 x2 x3 N σ)) - 1)) 0 (u_X9_makeRoom_1 x1 x2 x3 N σ) (((hp.2 h1).2.2.2.2 h2).2 h3)) (And.intro rfl (And.intro rfl (And.intro rfl (And.intro rfl (And.intro rfl (And.intro rfl (And.intro rfl trivial))))))) (fun vy σy hy => ?_)
        rw [s_X9_makeRoom, if_pos h1, if_neg h2, if_pos h3]; exact hy
  · exact And.intro rfl (And.intro rfl ⟨rfl, by rw [s_X9_makeRoom, if_neg h1] <;> rfl⟩)
def u_X9_come_1 (x1 : Int32) (x2 : Int32) (σ : zS) : zS := zuI σ 469 (f_X9_atTask x1 12).toNatClampNeg x2
def u_X9_come_2 (x1 : Int32) (x2 : Int32) (σ : zS) : zS := zuI (u_X9_come_1 x1 x2 σ) 469 (f_X9_atTask x1 2).toNatClampNeg 1
def u_X9_come_3 (x1 : Int32) (x2 : Int32) (σ : zS) : zS := s_X9_place x2 x1 (f_X9_frames x1 (u_X9_come_2 x1 x2 σ)) (u_X9_come_2 x1 x2 σ)
def s_X9_come (x1 : Int32) (x2 : Int32) (σ : zS) : zS := (u_X9_come_3 x1 x2 σ)
def p_X9_come (x1 : Int32) (x2 : Int32) (σ : zS) : Prop := vp_in (f_X9_atTask x1 12) 14241 ∧ (vp_in (f_X9_atTask x1 2) 14241 ∧ (p_X9_frames x1 (u_X9_come_2 x1 x2 σ) ∧ p_X9_place x2 x1 (f_X9_frames x1 (u_X9_come_2 x1 x2 σ)) (u_X9_come_2 x1 x2 σ)))
set_option maxRecDepth 100000 in
set_option maxHeartbeats 1000000 in
theorem c_X9_come {nx : Nat} (x1 : Int32) (x2 : Int32) (σ : zS) (hp : p_X9_come x1 x2 σ) : zCl 3 zall nx zall nx 249 [.inr (9, 57, 468), .inl x1, .inl x2] σ (fun v σ1 => v = none ∧ σ1 = s_X9_come x1 x2 σ) := by
  refine zmeth (cd := kX9_come) [] 1000 (Nat.le_of_ble_eq_true rfl) rfl okX9_come (Nat.le_refl _) (Nat.le_of_ble_eq_true rfl) ?_
  refine zCl.use (c_X9_atTask x1 12 σ) (Nat.le_of_ble_eq_true rfl) ?_
  rintro _ σz ⟨rfl, hz⟩
  subst σz
  refine And.intro hp.1 ?_
  refine zCl.use (c_X9_atTask x1 2 (u_X9_come_1 x1 x2 σ)) (Nat.le_of_ble_eq_true rfl) ?_
  rintro _ σz ⟨rfl, hz⟩
  subst σz
  refine And.intro hp.2.1 ?_
  refine zCl.use (c_X9_frames x1 (u_X9_come_2 x1 x2 σ) hp.2.2.1) (Nat.le_of_ble_eq_true rfl) ?_
  rintro _ σz ⟨rfl, hz⟩
  subst σz
  refine zCl.use (c_X9_place x2 x1 (f_X9_frames x1 (u_X9_come_2 x1 x2 σ)) (u_X9_come_2 x1 x2 σ) hp.2.2.2) (Nat.le_of_ble_eq_true rfl) ?_
  rintro _ σz ⟨rfl, hz⟩
  subst σz
  exact And.intro rfl (And.intro rfl ⟨rfl, by rw [s_X9_come] <;> rfl⟩)
def f_X9_wanted (σ : zS) : Int32 := if 0 ≤ (σ.1 469 10) then (f_X9_behind (σ.1 469 10) 1 σ) else 0
def p_X9_wanted (σ : zS) : Prop := 0 ≤ (σ.1 469 10) → p_X9_behind (σ.1 469 10) 1 σ
set_option maxRecDepth 100000 in
set_option maxHeartbeats 1000000 in
theorem c_X9_wanted {nx : Nat} (σ : zS) (hp : p_X9_wanted σ) : zCl 3 zall nx zall nx 250 [.inr (9, 57, 468)] σ (fun v σ1 => v = some (.inl (f_X9_wanted σ)) ∧ σ1 = σ) := by
  refine zmeth (cd := kX9_wanted) [] 1000 (Nat.le_of_ble_eq_true rfl) rfl okX9_wanted (Nat.le_refl _) (Nat.le_of_ble_eq_true rfl) ?_
  refine And.intro (vp_in_iff.mpr (by decide)) ?_
  refine And.intro (fun (h1 : 0 ≤ (σ.1 469 10)) => ?_) (fun (h1 : ¬ 0 ≤ (σ.1 469 10)) => ?_)
  · refine And.intro (vp_in_iff.mpr (by decide)) ?_
    refine zCl.use (c_X9_behind (σ.1 469 10) 1 σ (hp h1)) (Nat.le_of_ble_eq_true rfl) ?_
    rintro _ σz ⟨rfl, hz⟩
    subst σz
    exact And.intro rfl (And.intro rfl ⟨by rw [f_X9_wanted, if_pos h1] <;> rfl, rfl⟩)
  · exact And.intro rfl (And.intro rfl ⟨by rw [f_X9_wanted, if_neg h1] <;> rfl, rfl⟩)
def u_X9_doBegin_1 (x1 : Int32) (N : Nat) (σ : zS) : zS := s_X9_makeRoom x1 (f_X9_wanted σ) 0 N σ
def u_X9_doBegin_2 (x1 : Int32) (N : Nat) (σ : zS) : zS := s_X9_giveTask x1 N (u_X9_doBegin_1 x1 N σ)
def u_X9_doBegin_3 (x1 : Int32) (N : Nat) (σ : zS) : zS := s_X9_enter x1 (f_X9_functionOf x1 (u_X9_doBegin_2 x1 N σ)) N (u_X9_doBegin_2 x1 N σ)
def u_X9_doBegin_4 (x1 : Int32) (N : Nat) (σ : zS) : zS := zuI (u_X9_doBegin_3 x1 N σ) 469 (f_X9_atTask x1 0).toNatClampNeg 1
def u_X9_doBegin_5 (x1 : Int32) (N : Nat) (σ : zS) : zS := zuI (u_X9_doBegin_4 x1 N σ) 469 (f_X9_atTask x1 4).toNatClampNeg 1
def u_X9_doBegin_6 (x1 : Int32) (N : Nat) (σ : zS) : zS := s_X9_come x1 (f_X9_wanted σ) (u_X9_doBegin_5 x1 N σ)
def u_X9_doBegin_7 (x1 : Int32) (N : Nat) (σ : zS) : zS := zuI (u_X9_doBegin_6 x1 N σ) 469 10 (f_X9_wanted σ)
def s_X9_doBegin (x1 : Int32) (N : Nat) (σ : zS) : zS := (u_X9_doBegin_7 x1 N σ)
def p_X9_doBegin (x1 : Int32) (N : Nat) (σ : zS) : Prop := p_X9_wanted σ ∧ (p_X9_makeRoom x1 (f_X9_wanted σ) 0 N σ ∧ (p_X9_giveTask x1 N (u_X9_doBegin_1 x1 N σ) ∧ (p_X9_functionOf x1 (u_X9_doBegin_2 x1 N σ) ∧ (p_X9_enter x1 (f_X9_functionOf x1 (u_X9_doBegin_2 x1 N σ)) N (u_X9_doBegin_2 x1 N σ) ∧ (vp_in (f_X9_atTask x1 0) 14241 ∧ (vp_in (f_X9_atTask x1 4) 14241 ∧ p_X9_come x1 (f_X9_wanted σ) (u_X9_doBegin_5 x1 N σ)))))))
set_option maxRecDepth 100000 in
set_option maxHeartbeats 1000000 in
theorem c_X9_doBegin {nx : Nat} (x1 : Int32) (N : Nat) (σ : zS) (hp : p_X9_doBegin x1 N σ) : zCl 5 zall nx zall nx 251 [.inr (9, 57, 468), .inl x1] σ (fun v σ1 => v = none ∧ σ1 = s_X9_doBegin x1 N σ) := by
  refine zmeth (cd := kX9_doBegin) [] 1000 (Nat.le_of_ble_eq_true rfl) rfl okX9_doBegin (Nat.le_refl _) (Nat.le_of_ble_eq_true rfl) ?_
  refine zCl.use (c_X9_wanted σ hp.1) (Nat.le_of_ble_eq_true rfl) ?_
  rintro _ σz ⟨rfl, hz⟩
  subst σz
  refine zCl.use (c_X9_makeRoom x1 (f_X9_wanted σ) 0 N σ hp.2.1) (Nat.le_of_ble_eq_true rfl) ?_
  rintro _ σz ⟨rfl, hz⟩
  subst σz
  refine zCl.use (c_X9_giveTask x1 N (u_X9_doBegin_1 x1 N σ) hp.2.2.1) (Nat.le_of_ble_eq_true rfl) ?_
  rintro _ σz ⟨rfl, hz⟩
  subst σz
  refine zCl.use (c_X9_functionOf x1 (u_X9_doBegin_2 x1 N σ) hp.2.2.2.1) (Nat.le_of_ble_eq_true rfl) ?_
  rintro _ σz ⟨rfl, hz⟩
  subst σz
  refine zCl.use (c_X9_enter x1 (f_X9_functionOf x1 (u_X9_doBegin_2 x1 N σ)) N (u_X9_doBegin_2 x1 N σ) hp.2.2.2.2.1) (Nat.le_of_ble_eq_true rfl) ?_
  rintro _ σz ⟨rfl, hz⟩
  subst σz
  refine zCl.use (c_X9_atTask x1 0 (u_X9_doBegin_3 x1 N σ)) (Nat.le_of_ble_eq_true rfl) ?_
  rintro _ σz ⟨rfl, hz⟩
  subst σz
  refine And.intro hp.2.2.2.2.2.1 ?_
  refine zCl.use (c_X9_atTask x1 4 (u_X9_doBegin_4 x1 N σ)) (Nat.le_of_ble_eq_true rfl) ?_
  rintro _ σz ⟨rfl, hz⟩
  subst σz
  refine And.intro hp.2.2.2.2.2.2.1 ?_
  refine zCl.use (c_X9_come x1 (f_X9_wanted σ) (u_X9_doBegin_5 x1 N σ) hp.2.2.2.2.2.2.2) (Nat.le_of_ble_eq_true rfl) ?_
  rintro _ σz ⟨rfl, hz⟩
  subst σz
  refine And.intro (vp_in_iff.mpr (by decide)) ?_
  exact And.intro rfl (And.intro rfl ⟨rfl, by rw [s_X9_doBegin] <;> rfl⟩)
