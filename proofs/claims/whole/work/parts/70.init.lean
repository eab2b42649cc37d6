/-! the constructors: Reader, History -/
theorem m_X3 (σ : zS) : (zuR (zu0 (zuR (zu0 (zuR (zu0 (zuR (zu0 (zuR (zini 5 12 (zuR (zini 3 5 (zu0 σ 2)) 2 0 (3 + 1))) 2 1 (5 + 1)) 12) 2 8 (12 + 1)) 13) 2 9 (13 + 1)) 14) 2 10 (14 + 1)) 15) 2 11 (15 + 1)) = zini 2 16 σ := by
  refine zrs.done ((((((((((((((zrs.start (S := (fun a => Nat.beq a 2)) (o := 2) (σ := σ)).spec (by simp) (Nat.le_refl _)).ini (by omega) (by omega)).uR (by simp)).ini (by omega) (by omega)).uR (by simp)).arr (by omega) rfl (Or.inl rfl)).uR (by simp)).arr (by omega) rfl (Or.inl rfl)).uR (by simp)).arr (by omega) rfl (Or.inl rfl)).uR (by simp)).arr (by omega) rfl (Or.inl rfl)).uR (by simp)) (fun a ha => ?_)
  have ea : a = 2 := Nat.eq_of_beq_eq_true ha
  rw [ea]
  refine ⟨by omega, fun j => ⟨?_, ?_⟩⟩
  · rw [iI_z (show zlay 2 = (3, 12) from rfl) (by decide)]
    (repeat (first | refine Eq.trans (gR_1) ?_ | refine Eq.trans (gI_k (by omega)) ?_ | refine Eq.trans (gI_a (by omega)) ?_ | refine Eq.trans (zu0_ne1 (by omega)) ?_ | refine Eq.trans (gi_1 (by omega)) ?_)) <;> first | exact g0_hit1 | exact gI_hit | rfl
  · rw [iR_c (show zlay 2 = (3, 12) from rfl) (by decide)]
    match j with
    | 0 => (repeat (first | refine Eq.trans (gR_a (by omega)) ?_ | refine Eq.trans (gi_2 (by omega)) ?_ | refine Eq.trans (gR_k (by omega)) ?_ | refine Eq.trans (zu0_ne2 (by omega)) ?_ | refine Eq.trans (gI_2) ?_)) <;> first | exact g0_hit2 | exact gR_hit | rfl
    | 1 => (repeat (first | refine Eq.trans (gR_a (by omega)) ?_ | refine Eq.trans (gi_2 (by omega)) ?_ | refine Eq.trans (gR_k (by omega)) ?_ | refine Eq.trans (zu0_ne2 (by omega)) ?_ | refine Eq.trans (gI_2) ?_)) <;> first | exact g0_hit2 | exact gR_hit | rfl
    | 2 => (repeat (first | refine Eq.trans (gR_a (by omega)) ?_ | refine Eq.trans (gi_2 (by omega)) ?_ | refine Eq.trans (gR_k (by omega)) ?_ | refine Eq.trans (zu0_ne2 (by omega)) ?_ | refine Eq.trans (gI_2) ?_)) <;> first | exact g0_hit2 | exact gR_hit | rfl
    | 3 => (repeat (first | refine Eq.trans (gR_a (by omega)) ?_ | refine Eq.trans (gi_2 (by omega)) ?_ | refine Eq.trans (gR_k (by omega)) ?_ | refine Eq.trans (zu0_ne2 (by omega)) ?_ | refine Eq.trans (gI_2) ?_)) <;> first | exact g0_hit2 | exact gR_hit | rfl
    | 4 => (repeat (first | refine Eq.trans (gR_a (by omega)) ?_ | refine Eq.trans (gi_2 (by omega)) ?_ | refine Eq.trans (gR_k (by omega)) ?_ | refine Eq.trans (zu0_ne2 (by omega)) ?_ | refine Eq.trans (gI_2) ?_)) <;> first | exact g0_hit2 | exact gR_hit | rfl
    | 5 => (repeat (first | refine Eq.trans (gR_a (by omega)) ?_ | refine Eq.trans (gi_2 (by omega)) ?_ | refine Eq.trans (gR_k (by omega)) ?_ | refine Eq.trans (zu0_ne2 (by omega)) ?_ | refine Eq.trans (gI_2) ?_)) <;> first | exact g0_hit2 | exact gR_hit | rfl
    | 6 => (repeat (first | refine Eq.trans (gR_a (by omega)) ?_ | refine Eq.trans (gi_2 (by omega)) ?_ | refine Eq.trans (gR_k (by omega)) ?_ | refine Eq.trans (zu0_ne2 (by omega)) ?_ | refine Eq.trans (gI_2) ?_)) <;> first | exact g0_hit2 | exact gR_hit | rfl
    | 7 => (repeat (first | refine Eq.trans (gR_a (by omega)) ?_ | refine Eq.trans (gi_2 (by omega)) ?_ | refine Eq.trans (gR_k (by omega)) ?_ | refine Eq.trans (zu0_ne2 (by omega)) ?_ | refine Eq.trans (gI_2) ?_)) <;> first | exact g0_hit2 | exact gR_hit | rfl
    | 8 => (repeat (first | refine Eq.trans (gR_a (by omega)) ?_ | refine Eq.trans (gi_2 (by omega)) ?_ | refine Eq.trans (gR_k (by omega)) ?_ | refine Eq.trans (zu0_ne2 (by omega)) ?_ | refine Eq.trans (gI_2) ?_)) <;> first | exact g0_hit2 | exact gR_hit | rfl
    | 9 => (repeat (first | refine Eq.trans (gR_a (by omega)) ?_ | refine Eq.trans (gi_2 (by omega)) ?_ | refine Eq.trans (gR_k (by omega)) ?_ | refine Eq.trans (zu0_ne2 (by omega)) ?_ | refine Eq.trans (gI_2) ?_)) <;> first | exact g0_hit2 | exact gR_hit | rfl
    | 10 => (repeat (first | refine Eq.trans (gR_a (by omega)) ?_ | refine Eq.trans (gi_2 (by omega)) ?_ | refine Eq.trans (gR_k (by omega)) ?_ | refine Eq.trans (zu0_ne2 (by omega)) ?_ | refine Eq.trans (gI_2) ?_)) <;> first | exact g0_hit2 | exact gR_hit | rfl
    | 11 => (repeat (first | refine Eq.trans (gR_a (by omega)) ?_ | refine Eq.trans (gi_2 (by omega)) ?_ | refine Eq.trans (gR_k (by omega)) ?_ | refine Eq.trans (zu0_ne2 (by omega)) ?_ | refine Eq.trans (gI_2) ?_)) <;> first | exact g0_hit2 | exact gR_hit | rfl
    | j + 12 => (repeat (first | refine Eq.trans (gR_a (by omega)) ?_ | refine Eq.trans (gi_2 (by omega)) ?_ | refine Eq.trans (gR_k (by omega)) ?_ | refine Eq.trans (zu0_ne2 (by omega)) ?_ | refine Eq.trans (gI_2) ?_)) <;> first | exact g0_hit2 | exact gR_hit | rfl
set_option maxRecDepth 100000 in
set_option maxHeartbeats 1000000 in
theorem n_X3 (σ : zS) : zCl 7 zno 3 zno 16 25 [.inr (3, 12, 2)] (zu0 σ 2) (fun v σ1 => v = none ∧ σ1 = zini 2 16 σ) := by
  refine zmeth (cd := kX3_init) [] 1000 (Nat.le_of_ble_eq_true rfl) rfl okX3_init (by omega) (Nat.le_of_ble_eq_true rfl) ?_
  refine And.intro rfl (And.intro rfl (And.intro (by omega) ?_))
  refine ⟨zno, 5, by omega, zsl_mono (by omega), zCl.use (n_X6 (zu0 σ 2)) (by decide) ?_⟩
  rintro _ σz ⟨rfl, hz0⟩
  subst σz
  refine And.intro (by omega) (And.intro rfl ?_)
  refine And.intro rfl (And.intro rfl (And.intro (by omega) ?_))
  refine ⟨zno, 12, by omega, zsl_mono (by omega), zCl.use (n_X2 5 (zuR (zini 3 5 (zu0 σ 2)) 2 0 (3 + 1)) (by omega) (by decide +kernel)) (by decide) ?_⟩
  rintro _ σz ⟨rfl, hz0⟩
  subst σz
  refine And.intro (by omega) ?_
  refine And.intro rfl (And.intro (by decide) (And.intro (by omega) ?_))
  refine And.intro (by omega) (And.intro rfl ?_)
  refine And.intro rfl (And.intro (by decide) (And.intro (by omega) ?_))
  refine And.intro (by omega) (And.intro rfl ?_)
  refine And.intro rfl (And.intro (by decide) (And.intro (by omega) ?_))
  refine And.intro (by omega) (And.intro rfl ?_)
  refine And.intro rfl (And.intro (by decide) (And.intro (by omega) ?_))
  refine And.intro (by omega) (And.intro rfl ?_)
  exact And.intro rfl (And.intro rfl ⟨rfl, m_X3 σ⟩)
theorem m_X1 (σ : zS) : (zuR (zini 332 357 (zuR (zini 307 332 (zuR (zini 282 307 (zuR (zini 257 282 (zuR (zini 232 257 (zuR (zini 207 232 (zuR (zini 182 207 (zuR (zini 157 182 (zuR (zini 132 157 (zuR (zini 107 132 (zuR (zini 82 107 (zuR (zini 57 82 (zuR (zini 32 57 (zuR (zu0 (zu0 σ 30) 31) 30 0 (31 + 1))) 31 0 (32 + 1))) 31 1 (57 + 1))) 31 2 (82 + 1))) 31 3 (107 + 1))) 31 4 (132 + 1))) 31 5 (157 + 1))) 31 6 (182 + 1))) 31 7 (207 + 1))) 31 8 (232 + 1))) 31 9 (257 + 1))) 31 10 (282 + 1))) 31 11 (307 + 1))) 31 12 (332 + 1)) = zini 30 357 σ := by
  refine zrs.done ((((((((((((((((((((((((((((((zrs.start (S := (fun a => Nat.beq a 30 || Nat.beq a 31)) (o := 30) (σ := σ)).spec (by simp) (Nat.le_refl _)).spec (by simp) (by omega)).uR (by simp)).ini (by omega) (by omega)).uR (by simp)).ini (by omega) (by omega)).uR (by simp)).ini (by omega) (by omega)).uR (by simp)).ini (by omega) (by omega)).uR (by simp)).ini (by omega) (by omega)).uR (by simp)).ini (by omega) (by omega)).uR (by simp)).ini (by omega) (by omega)).uR (by simp)).ini (by omega) (by omega)).uR (by simp)).ini (by omega) (by omega)).uR (by simp)).ini (by omega) (by omega)).uR (by simp)).ini (by omega) (by omega)).uR (by simp)).ini (by omega) (by omega)).uR (by simp)).ini (by omega) (by omega)).uR (by simp)) (fun a ha => ?_)
  rcases (by simpa using ha : a = 30 ∨ a = 31) with ea | ea
  · rw [ea]
    refine ⟨by omega, fun j => ⟨?_, ?_⟩⟩
    · rw [iI_z (show zlay 30 = (1, 3) from rfl) (by decide)]
      (repeat (first | refine Eq.trans (gR_1) ?_ | refine Eq.trans (gI_k (by omega)) ?_ | refine Eq.trans (gI_a (by omega)) ?_ | refine Eq.trans (zu0_ne1 (by omega)) ?_ | refine Eq.trans (gi_1 (by omega)) ?_)) <;> first | exact g0_hit1 | exact gI_hit | rfl
    · rw [iR_c (show zlay 30 = (1, 3) from rfl) (by decide)]
      match j with
      | 0 => (repeat (first | refine Eq.trans (gR_a (by omega)) ?_ | refine Eq.trans (gi_2 (by omega)) ?_ | refine Eq.trans (gR_k (by omega)) ?_ | refine Eq.trans (zu0_ne2 (by omega)) ?_ | refine Eq.trans (gI_2) ?_)) <;> first | exact g0_hit2 | exact gR_hit | rfl
      | 1 => (repeat (first | refine Eq.trans (gR_a (by omega)) ?_ | refine Eq.trans (gi_2 (by omega)) ?_ | refine Eq.trans (gR_k (by omega)) ?_ | refine Eq.trans (zu0_ne2 (by omega)) ?_ | refine Eq.trans (gI_2) ?_)) <;> first | exact g0_hit2 | exact gR_hit | rfl
      | 2 => (repeat (first | refine Eq.trans (gR_a (by omega)) ?_ | refine Eq.trans (gi_2 (by omega)) ?_ | refine Eq.trans (gR_k (by omega)) ?_ | refine Eq.trans (zu0_ne2 (by omega)) ?_ | refine Eq.trans (gI_2) ?_)) <;> first | exact g0_hit2 | exact gR_hit | rfl
      | j + 3 => (repeat (first | refine Eq.trans (gR_a (by omega)) ?_ | refine Eq.trans (gi_2 (by omega)) ?_ | refine Eq.trans (gR_k (by omega)) ?_ | refine Eq.trans (zu0_ne2 (by omega)) ?_ | refine Eq.trans (gI_2) ?_)) <;> first | exact g0_hit2 | exact gR_hit | rfl
  · rw [ea]
    refine ⟨by omega, fun j => ⟨?_, ?_⟩⟩
    · rw [iI_z (show zlay 31 = (23, 13) from rfl) (by decide)]
      (repeat (first | refine Eq.trans (gR_1) ?_ | refine Eq.trans (gI_k (by omega)) ?_ | refine Eq.trans (gI_a (by omega)) ?_ | refine Eq.trans (zu0_ne1 (by omega)) ?_ | refine Eq.trans (gi_1 (by omega)) ?_)) <;> first | exact g0_hit1 | exact gI_hit | rfl
    · rw [iR_23 (show zlay 31 = (23, 13) from rfl)]
      match j with
      | 0 => (repeat (first | refine Eq.trans (gR_a (by omega)) ?_ | refine Eq.trans (gi_2 (by omega)) ?_ | refine Eq.trans (gR_k (by omega)) ?_ | refine Eq.trans (zu0_ne2 (by omega)) ?_ | refine Eq.trans (gI_2) ?_)) <;> first | exact g0_hit2 | exact gR_hit | rfl
      | 1 => (repeat (first | refine Eq.trans (gR_a (by omega)) ?_ | refine Eq.trans (gi_2 (by omega)) ?_ | refine Eq.trans (gR_k (by omega)) ?_ | refine Eq.trans (zu0_ne2 (by omega)) ?_ | refine Eq.trans (gI_2) ?_)) <;> first | exact g0_hit2 | exact gR_hit | rfl
      | 2 => (repeat (first | refine Eq.trans (gR_a (by omega)) ?_ | refine Eq.trans (gi_2 (by omega)) ?_ | refine Eq.trans (gR_k (by omega)) ?_ | refine Eq.trans (zu0_ne2 (by omega)) ?_ | refine Eq.trans (gI_2) ?_)) <;> first | exact g0_hit2 | exact gR_hit | rfl
      | 3 => (repeat (first | refine Eq.trans (gR_a (by omega)) ?_ | refine Eq.trans (gi_2 (by omega)) ?_ | refine Eq.trans (gR_k (by omega)) ?_ | refine Eq.trans (zu0_ne2 (by omega)) ?_ | refine Eq.trans (gI_2) ?_)) <;> first | exact g0_hit2 | exact gR_hit | rfl
      | 4 => (repeat (first | refine Eq.trans (gR_a (by omega)) ?_ | refine Eq.trans (gi_2 (by omega)) ?_ | refine Eq.trans (gR_k (by omega)) ?_ | refine Eq.trans (zu0_ne2 (by omega)) ?_ | refine Eq.trans (gI_2) ?_)) <;> first | exact g0_hit2 | exact gR_hit | rfl
      | 5 => (repeat (first | refine Eq.trans (gR_a (by omega)) ?_ | refine Eq.trans (gi_2 (by omega)) ?_ | refine Eq.trans (gR_k (by omega)) ?_ | refine Eq.trans (zu0_ne2 (by omega)) ?_ | refine Eq.trans (gI_2) ?_)) <;> first | exact g0_hit2 | exact gR_hit | rfl
      | 6 => (repeat (first | refine Eq.trans (gR_a (by omega)) ?_ | refine Eq.trans (gi_2 (by omega)) ?_ | refine Eq.trans (gR_k (by omega)) ?_ | refine Eq.trans (zu0_ne2 (by omega)) ?_ | refine Eq.trans (gI_2) ?_)) <;> first | exact g0_hit2 | exact gR_hit | rfl
      | 7 => (repeat (first | refine Eq.trans (gR_a (by omega)) ?_ | refine Eq.trans (gi_2 (by omega)) ?_ | refine Eq.trans (gR_k (by omega)) ?_ | refine Eq.trans (zu0_ne2 (by omega)) ?_ | refine Eq.trans (gI_2) ?_)) <;> first | exact g0_hit2 | exact gR_hit | rfl
      | 8 => (repeat (first | refine Eq.trans (gR_a (by omega)) ?_ | refine Eq.trans (gi_2 (by omega)) ?_ | refine Eq.trans (gR_k (by omega)) ?_ | refine Eq.trans (zu0_ne2 (by omega)) ?_ | refine Eq.trans (gI_2) ?_)) <;> first | exact g0_hit2 | exact gR_hit | rfl
      | 9 => (repeat (first | refine Eq.trans (gR_a (by omega)) ?_ | refine Eq.trans (gi_2 (by omega)) ?_ | refine Eq.trans (gR_k (by omega)) ?_ | refine Eq.trans (zu0_ne2 (by omega)) ?_ | refine Eq.trans (gI_2) ?_)) <;> first | exact g0_hit2 | exact gR_hit | rfl
      | 10 => (repeat (first | refine Eq.trans (gR_a (by omega)) ?_ | refine Eq.trans (gi_2 (by omega)) ?_ | refine Eq.trans (gR_k (by omega)) ?_ | refine Eq.trans (zu0_ne2 (by omega)) ?_ | refine Eq.trans (gI_2) ?_)) <;> first | exact g0_hit2 | exact gR_hit | rfl
      | 11 => (repeat (first | refine Eq.trans (gR_a (by omega)) ?_ | refine Eq.trans (gi_2 (by omega)) ?_ | refine Eq.trans (gR_k (by omega)) ?_ | refine Eq.trans (zu0_ne2 (by omega)) ?_ | refine Eq.trans (gI_2) ?_)) <;> first | exact g0_hit2 | exact gR_hit | rfl
      | 12 => (repeat (first | refine Eq.trans (gR_a (by omega)) ?_ | refine Eq.trans (gi_2 (by omega)) ?_ | refine Eq.trans (gR_k (by omega)) ?_ | refine Eq.trans (zu0_ne2 (by omega)) ?_ | refine Eq.trans (gI_2) ?_)) <;> first | exact g0_hit2 | exact gR_hit | rfl
      | j + 13 => rw [if_pos rfl, if_neg (by omega)]; (repeat (first | refine Eq.trans (gR_a (by omega)) ?_ | refine Eq.trans (gi_2 (by omega)) ?_ | refine Eq.trans (gR_k (by omega)) ?_ | refine Eq.trans (zu0_ne2 (by omega)) ?_ | refine Eq.trans (gI_2) ?_)) <;> first | exact g0_hit2 | exact gR_hit | rfl
set_option maxRecDepth 100000 in
set_option maxHeartbeats 8000000 in
theorem n_X1 (σ : zS) : zCl 9 zno 31 zno 357 14 [.inr (1, 3, 30)] (zu0 σ 30) (fun v σ1 => v = none ∧ σ1 = zini 30 357 σ) := by
  refine zmeth (cd := kX1_init) [] 1000 (Nat.le_of_ble_eq_true rfl) rfl okX1_init (by omega) (Nat.le_of_ble_eq_true rfl) ?_
  refine And.intro rfl (And.intro (by decide) (And.intro (by omega) ?_))
  refine And.intro (by omega) (And.intro rfl ?_)
  refine And.intro ?_ (fun q hq => ?_)
  · intro z
    have z1 : (zuR (zu0 (zu0 σ 30) 31) 30 0 (31 + 1)).2 30 0 = 31 + 1 := by
      (repeat (first | refine Eq.trans (gR_a (by omega)) ?_ | refine Eq.trans (gi_2 (by omega)) ?_ | refine Eq.trans (gR_k (by omega)) ?_ | refine Eq.trans (zu0_ne2 (by omega)) ?_ | refine Eq.trans (gI_2) ?_)) <;> first | exact g0_hit2 | exact gR_hit | rfl
    have z2 := z1.symm.trans z
    omega
  have z1 : (zuR (zu0 (zu0 σ 30) 31) 30 0 (31 + 1)).2 30 0 = 31 + 1 := by
    (repeat (first | refine Eq.trans (gR_a (by omega)) ?_ | refine Eq.trans (gi_2 (by omega)) ?_ | refine Eq.trans (gR_k (by omega)) ?_ | refine Eq.trans (zu0_ne2 (by omega)) ?_ | refine Eq.trans (gI_2) ?_)) <;> first | exact g0_hit2 | exact gR_hit | rfl
  obtain rfl : q = 31 := by
    have z2 := hq.symm.trans z1
    omega
  clear hq z1
  rw [show zlay 31 = (23, 13) from rfl]
  refine And.intro (fun z => absurd z (by decide)) (fun _ => ?_)
  refine And.intro ?_ (fun q hq => ?_)
  · intro z
    have z1 : (zuR (zu0 (zu0 σ 30) 31) 30 0 (31 + 1)).2 30 0 = 31 + 1 := by
      (repeat (first | refine Eq.trans (gR_a (by omega)) ?_ | refine Eq.trans (gi_2 (by omega)) ?_ | refine Eq.trans (gR_k (by omega)) ?_ | refine Eq.trans (zu0_ne2 (by omega)) ?_ | refine Eq.trans (gI_2) ?_)) <;> first | exact g0_hit2 | exact gR_hit | rfl
    have z2 := z1.symm.trans z
    omega
  have z1 : (zuR (zu0 (zu0 σ 30) 31) 30 0 (31 + 1)).2 30 0 = 31 + 1 := by
    (repeat (first | refine Eq.trans (gR_a (by omega)) ?_ | refine Eq.trans (gi_2 (by omega)) ?_ | refine Eq.trans (gR_k (by omega)) ?_ | refine Eq.trans (zu0_ne2 (by omega)) ?_ | refine Eq.trans (gI_2) ?_)) <;> first | exact g0_hit2 | exact gR_hit | rfl
  obtain rfl : q = 31 := by
    have z2 := hq.symm.trans z1
    omega
  clear hq z1
  rw [show zlay 31 = (23, 13) from rfl]
  refine And.intro rfl (And.intro rfl (And.intro (by omega) ?_))
  refine ⟨zno, 57, by omega, zsl_mono (by omega), zCl.use (n_X4 32 (zuR (zu0 (zu0 σ 30) 31) 30 0 (31 + 1)) (by omega) (by decide +kernel)) (by decide) ?_⟩
  rintro _ σz ⟨rfl, hz0⟩
  subst σz
  refine And.intro (vp_in_iff.mpr (by decide)) ?_
  refine And.intro ?_ (fun q hq => ?_)
  · intro z
    have z1 : (zuR (zini 32 57 (zuR (zu0 (zu0 σ 30) 31) 30 0 (31 + 1))) 31 0 (32 + 1)).2 30 0 = 31 + 1 := by
      (repeat (first | refine Eq.trans (gR_a (by omega)) ?_ | refine Eq.trans (gi_2 (by omega)) ?_ | refine Eq.trans (gR_k (by omega)) ?_ | refine Eq.trans (zu0_ne2 (by omega)) ?_ | refine Eq.trans (gI_2) ?_)) <;> first | exact g0_hit2 | exact gR_hit | rfl
    have z2 := z1.symm.trans z
    omega
  have z1 : (zuR (zini 32 57 (zuR (zu0 (zu0 σ 30) 31) 30 0 (31 + 1))) 31 0 (32 + 1)).2 30 0 = 31 + 1 := by
    (repeat (first | refine Eq.trans (gR_a (by omega)) ?_ | refine Eq.trans (gi_2 (by omega)) ?_ | refine Eq.trans (gR_k (by omega)) ?_ | refine Eq.trans (zu0_ne2 (by omega)) ?_ | refine Eq.trans (gI_2) ?_)) <;> first | exact g0_hit2 | exact gR_hit | rfl
  obtain rfl : q = 31 := by
    have z2 := hq.symm.trans z1
    omega
  clear hq z1
  rw [show zlay 31 = (23, 13) from rfl]
  refine And.intro (fun z => absurd z (by decide)) (fun _ => ?_)
  refine And.intro ?_ (fun q hq => ?_)
  · intro z
    have z1 : (zuR (zini 32 57 (zuR (zu0 (zu0 σ 30) 31) 30 0 (31 + 1))) 31 0 (32 + 1)).2 30 0 = 31 + 1 := by
      (repeat (first | refine Eq.trans (gR_a (by omega)) ?_ | refine Eq.trans (gi_2 (by omega)) ?_ | refine Eq.trans (gR_k (by omega)) ?_ | refine Eq.trans (zu0_ne2 (by omega)) ?_ | refine Eq.trans (gI_2) ?_)) <;> first | exact g0_hit2 | exact gR_hit | rfl
    have z2 := z1.symm.trans z
    omega
  have z1 : (zuR (zini 32 57 (zuR (zu0 (zu0 σ 30) 31) 30 0 (31 + 1))) 31 0 (32 + 1)).2 30 0 = 31 + 1 := by
    (repeat (first | refine Eq.trans (gR_a (by omega)) ?_ | refine Eq.trans (gi_2 (by omega)) ?_ | refine Eq.trans (gR_k (by omega)) ?_ | refine Eq.trans (zu0_ne2 (by omega)) ?_ | refine Eq.trans (gI_2) ?_)) <;> first | exact g0_hit2 | exact gR_hit | rfl
  obtain rfl : q = 31 := by
    have z2 := hq.symm.trans z1
    omega
  clear hq z1
  rw [show zlay 31 = (23, 13) from rfl]
  refine And.intro rfl (And.intro rfl (And.intro (by omega) ?_))
  refine ⟨zno, 82, by omega, zsl_mono (by omega), zCl.use (n_X4 57 (zuR (zini 32 57 (zuR (zu0 (zu0 σ 30) 31) 30 0 (31 + 1))) 31 0 (32 + 1)) (by omega) (by decide +kernel)) (by decide) ?_⟩
  rintro _ σz ⟨rfl, hz0⟩
  subst σz
  refine And.intro (vp_in_iff.mpr (by decide)) ?_
  refine And.intro ?_ (fun q hq => ?_)
  · intro z
    have z1 : (zuR (zini 57 82 (zuR (zini 32 57 (zuR (zu0 (zu0 σ 30) 31) 30 0 (31 + 1))) 31 0 (32 + 1))) 31 1 (57 + 1)).2 30 0 = 31 + 1 := by
      (repeat (first | refine Eq.trans (gR_a (by omega)) ?_ | refine Eq.trans (gi_2 (by omega)) ?_ | refine Eq.trans (gR_k (by omega)) ?_ | refine Eq.trans (zu0_ne2 (by omega)) ?_ | refine Eq.trans (gI_2) ?_)) <;> first | exact g0_hit2 | exact gR_hit | rfl
    have z2 := z1.symm.trans z
    omega
  have z1 : (zuR (zini 57 82 (zuR (zini 32 57 (zuR (zu0 (zu0 σ 30) 31) 30 0 (31 + 1))) 31 0 (32 + 1))) 31 1 (57 + 1)).2 30 0 = 31 + 1 := by
    (repeat (first | refine Eq.trans (gR_a (by omega)) ?_ | refine Eq.trans (gi_2 (by omega)) ?_ | refine Eq.trans (gR_k (by omega)) ?_ | refine Eq.trans (zu0_ne2 (by omega)) ?_ | refine Eq.trans (gI_2) ?_)) <;> first | exact g0_hit2 | exact gR_hit | rfl
  obtain rfl : q = 31 := by
    have z2 := hq.symm.trans z1
    omega
  clear hq z1
  rw [show zlay 31 = (23, 13) from rfl]
  refine And.intro (fun z => absurd z (by decide)) (fun _ => ?_)
  refine And.intro ?_ (fun q hq => ?_)
  · intro z
    have z1 : (zuR (zini 57 82 (zuR (zini 32 57 (zuR (zu0 (zu0 σ 30) 31) 30 0 (31 + 1))) 31 0 (32 + 1))) 31 1 (57 + 1)).2 30 0 = 31 + 1 := by
      (repeat (first | refine Eq.trans (gR_a (by omega)) ?_ | refine Eq.trans (gi_2 (by omega)) ?_ | refine Eq.trans (gR_k (by omega)) ?_ | refine Eq.trans (zu0_ne2 (by omega)) ?_ | refine Eq.trans (gI_2) ?_)) <;> first | exact g0_hit2 | exact gR_hit | rfl
    have z2 := z1.symm.trans z
    omega
  have z1 : (zuR (zini 57 82 (zuR (zini 32 57 (zuR (zu0 (zu0 σ 30) 31) 30 0 (31 + 1))) 31 0 (32 + 1))) 31 1 (57 + 1)).2 30 0 = 31 + 1 := by
    (repeat (first | refine Eq.trans (gR_a (by omega)) ?_ | refine Eq.trans (gi_2 (by omega)) ?_ | refine Eq.trans (gR_k (by omega)) ?_ | refine Eq.trans (zu0_ne2 (by omega)) ?_ | refine Eq.trans (gI_2) ?_)) <;> first | exact g0_hit2 | exact gR_hit | rfl
  obtain rfl : q = 31 := by
    have z2 := hq.symm.trans z1
    omega
  clear hq z1
  rw [show zlay 31 = (23, 13) from rfl]
  refine And.intro rfl (And.intro rfl (And.intro (by omega) ?_))
  refine ⟨zno, 107, by omega, zsl_mono (by omega), zCl.use (n_X4 82 (zuR (zini 57 82 (zuR (zini 32 57 (zuR (zu0 (zu0 σ 30) 31) 30 0 (31 + 1))) 31 0 (32 + 1))) 31 1 (57 + 1)) (by omega) (by decide +kernel)) (by decide) ?_⟩
  rintro _ σz ⟨rfl, hz0⟩
  subst σz
  refine And.intro (vp_in_iff.mpr (by decide)) ?_
  refine And.intro ?_ (fun q hq => ?_)
  · intro z
    have z1 : (zuR (zini 82 107 (zuR (zini 57 82 (zuR (zini 32 57 (zuR (zu0 (zu0 σ 30) 31) 30 0 (31 + 1))) 31 0 (32 + 1))) 31 1 (57 + 1))) 31 2 (82 + 1)).2 30 0 = 31 + 1 := by
      (repeat (first | refine Eq.trans (gR_a (by omega)) ?_ | refine Eq.trans (gi_2 (by omega)) ?_ | refine Eq.trans (gR_k (by omega)) ?_ | refine Eq.trans (zu0_ne2 (by omega)) ?_ | refine Eq.trans (gI_2) ?_)) <;> first | exact g0_hit2 | exact gR_hit | rfl
    have z2 := z1.symm.trans z
    omega
  have z1 : (zuR (zini 82 107 (zuR (zini 57 82 (zuR (zini 32 57 (zuR (zu0 (zu0 σ 30) 31) 30 0 (31 + 1))) 31 0 (32 + 1))) 31 1 (57 + 1))) 31 2 (82 + 1)).2 30 0 = 31 + 1 := by
    (repeat (first | refine Eq.trans (gR_a (by omega)) ?_ | refine Eq.trans (gi_2 (by omega)) ?_ | refine Eq.trans (gR_k (by omega)) ?_ | refine Eq.trans (zu0_ne2 (by omega)) ?_ | refine Eq.trans (gI_2) ?_)) <;> first | exact g0_hit2 | exact gR_hit | rfl
  obtain rfl : q = 31 := by
    have z2 := hq.symm.trans z1
    omega
  clear hq z1
  rw [show zlay 31 = (23, 13) from rfl]
  refine And.intro (fun z => absurd z (by decide)) (fun _ => ?_)
  refine And.intro ?_ (fun q hq => ?_)
  · intro z
    have z1 : (zuR (zini 82 107 (zuR (zini 57 82 (zuR (zini 32 57 (zuR (zu0 (zu0 σ 30) 31) 30 0 (31 + 1))) 31 0 (32 + 1))) 31 1 (57 + 1))) 31 2 (82 + 1)).2 30 0 = 31 + 1 := by
      (repeat (first | refine Eq.trans (gR_a (by omega)) ?_ | refine Eq.trans (gi_2 (by omega)) ?_ | refine Eq.trans (gR_k (by omega)) ?_ | refine Eq.trans (zu0_ne2 (by omega)) ?_ | refine Eq.trans (gI_2) ?_)) <;> first | exact g0_hit2 | exact gR_hit | rfl
    have z2 := z1.symm.trans z
    omega
  have z1 : (zuR (zini 82 107 (zuR (zini 57 82 (zuR (zini 32 57 (zuR (zu0 (zu0 σ 30) 31) 30 0 (31 + 1))) 31 0 (32 + 1))) 31 1 (57 + 1))) 31 2 (82 + 1)).2 30 0 = 31 + 1 := by
    (repeat (first | refine Eq.trans (gR_a (by omega)) ?_ | refine Eq.trans (gi_2 (by omega)) ?_ | refine Eq.trans (gR_k (by omega)) ?_ | refine Eq.trans (zu0_ne2 (by omega)) ?_ | refine Eq.trans (gI_2) ?_)) <;> first | exact g0_hit2 | exact gR_hit | rfl
  obtain rfl : q = 31 := by
    have z2 := hq.symm.trans z1
    omega
  clear hq z1
  rw [show zlay 31 = (23, 13) from rfl]
  refine And.intro rfl (And.intro rfl (And.intro (by omega) ?_))
  refine ⟨zno, 132, by omega, zsl_mono (by omega), zCl.use (n_X4 107 (zuR (zini 82 107 (zuR (zini 57 82 (zuR (zini 32 57 (zuR (zu0 (zu0 σ 30) 31) 30 0 (31 + 1))) 31 0 (32 + 1))) 31 1 (57 + 1))) 31 2 (82 + 1)) (by omega) (by decide +kernel)) (by decide) ?_⟩
  rintro _ σz ⟨rfl, hz0⟩
  subst σz
  refine And.intro (vp_in_iff.mpr (by decide)) ?_
  refine And.intro ?_ (fun q hq => ?_)
  · intro z
    have z1 : (zuR (zini 107 132 (zuR (zini 82 107 (zuR (zini 57 82 (zuR (zini 32 57 (zuR (zu0 (zu0 σ 30) 31) 30 0 (31 + 1))) 31 0 (32 + 1))) 31 1 (57 + 1))) 31 2 (82 + 1))) 31 3 (107 + 1)).2 30 0 = 31 + 1 := by
      (repeat (first | refine Eq.trans (gR_a (by omega)) ?_ | refine Eq.trans (gi_2 (by omega)) ?_ | refine Eq.trans (gR_k (by omega)) ?_ | refine Eq.trans (zu0_ne2 (by omega)) ?_ | refine Eq.trans (gI_2) ?_)) <;> first | exact g0_hit2 | exact gR_hit | rfl
    have z2 := z1.symm.trans z
    omega
  have z1 : (zuR (zini 107 132 (zuR (zini 82 107 (zuR (zini 57 82 (zuR (zini 32 57 (zuR (zu0 (zu0 σ 30) 31) 30 0 (31 + 1))) 31 0 (32 + 1))) 31 1 (57 + 1))) 31 2 (82 + 1))) 31 3 (107 + 1)).2 30 0 = 31 + 1 := by
    (repeat (first | refine Eq.trans (gR_a (by omega)) ?_ | refine Eq.trans (gi_2 (by omega)) ?_ | refine Eq.trans (gR_k (by omega)) ?_ | refine Eq.trans (zu0_ne2 (by omega)) ?_ | refine Eq.trans (gI_2) ?_)) <;> first | exact g0_hit2 | exact gR_hit | rfl
  obtain rfl : q = 31 := by
    have z2 := hq.symm.trans z1
    omega
  clear hq z1
  rw [show zlay 31 = (23, 13) from rfl]
  refine And.intro (fun z => absurd z (by decide)) (fun _ => ?_)
  refine And.intro ?_ (fun q hq => ?_)
  · intro z
    have z1 : (zuR (zini 107 132 (zuR (zini 82 107 (zuR (zini 57 82 (zuR (zini 32 57 (zuR (zu0 (zu0 σ 30) 31) 30 0 (31 + 1))) 31 0 (32 + 1))) 31 1 (57 + 1))) 31 2 (82 + 1))) 31 3 (107 + 1)).2 30 0 = 31 + 1 := by
      (repeat (first | refine Eq.trans (gR_a (by omega)) ?_ | refine Eq.trans (gi_2 (by omega)) ?_ | refine Eq.trans (gR_k (by omega)) ?_ | refine Eq.trans (zu0_ne2 (by omega)) ?_ | refine Eq.trans (gI_2) ?_)) <;> first | exact g0_hit2 | exact gR_hit | rfl
    have z2 := z1.symm.trans z
    omega
  have z1 : (zuR (zini 107 132 (zuR (zini 82 107 (zuR (zini 57 82 (zuR (zini 32 57 (zuR (zu0 (zu0 σ 30) 31) 30 0 (31 + 1))) 31 0 (32 + 1))) 31 1 (57 + 1))) 31 2 (82 + 1))) 31 3 (107 + 1)).2 30 0 = 31 + 1 := by
    (repeat (first | refine Eq.trans (gR_a (by omega)) ?_ | refine Eq.trans (gi_2 (by omega)) ?_ | refine Eq.trans (gR_k (by omega)) ?_ | refine Eq.trans (zu0_ne2 (by omega)) ?_ | refine Eq.trans (gI_2) ?_)) <;> first | exact g0_hit2 | exact gR_hit | rfl
  obtain rfl : q = 31 := by
    have z2 := hq.symm.trans z1
    omega
  clear hq z1
  rw [show zlay 31 = (23, 13) from rfl]
  refine And.intro rfl (And.intro rfl (And.intro (by omega) ?_))
  refine ⟨zno, 157, by omega, zsl_mono (by omega), zCl.use (n_X4 132 (zuR (zini 107 132 (zuR (zini 82 107 (zuR (zini 57 82 (zuR (zini 32 57 (zuR (zu0 (zu0 σ 30) 31) 30 0 (31 + 1))) 31 0 (32 + 1))) 31 1 (57 + 1))) 31 2 (82 + 1))) 31 3 (107 + 1)) (by omega) (by decide +kernel)) (by decide) ?_⟩
  rintro _ σz ⟨rfl, hz0⟩
  subst σz
  refine And.intro (vp_in_iff.mpr (by decide)) ?_
  refine And.intro ?_ (fun q hq => ?_)
  · intro z
    have z1 : (zuR (zini 132 157 (zuR (zini 107 132 (zuR (zini 82 107 (zuR (zini 57 82 (zuR (zini 32 57 (zuR (zu0 (zu0 σ 30) 31) 30 0 (31 + 1))) 31 0 (32 + 1))) 31 1 (57 + 1))) 31 2 (82 + 1))) 31 3 (107 + 1))) 31 4 (132 + 1)).2 30 0 = 31 + 1 := by
      (repeat (first | refine Eq.trans (gR_a (by omega)) ?_ | refine Eq.trans (gi_2 (by omega)) ?_ | refine Eq.trans (gR_k (by omega)) ?_ | refine Eq.trans (zu0_ne2 (by omega)) ?_ | refine Eq.trans (gI_2) ?_)) <;> first | exact g0_hit2 | exact gR_hit | rfl
    have z2 := z1.symm.trans z
    omega
  have z1 : (zuR (zini 132 157 (zuR (zini 107 132 (zuR (zini 82 107 (zuR (zini 57 82 (zuR (zini 32 57 (zuR (zu0 (zu0 σ 30) 31) 30 0 (31 + 1))) 31 0 (32 + 1))) 31 1 (57 + 1))) 31 2 (82 + 1))) 31 3 (107 + 1))) 31 4 (132 + 1)).2 30 0 = 31 + 1 := by
    (repeat (first | refine Eq.trans (gR_a (by omega)) ?_ | refine Eq.trans (gi_2 (by omega)) ?_ | refine Eq.trans (gR_k (by omega)) ?_ | refine Eq.trans (zu0_ne2 (by omega)) ?_ | refine Eq.trans (gI_2) ?_)) <;> first | exact g0_hit2 | exact gR_hit | rfl
  obtain rfl : q = 31 := by
    have z2 := hq.symm.trans z1
    omega
  clear hq z1
  rw [show zlay 31 = (23, 13) from rfl]
  refine And.intro (fun z => absurd z (by decide)) (fun _ => ?_)
  refine And.intro ?_ (fun q hq => ?_)
  · intro z
    have z1 : (zuR (zini 132 157 (zuR (zini 107 132 (zuR (zini 82 107 (zuR (zini 57 82 (zuR (zini 32 57 (zuR (zu0 (zu0 σ 30) 31) 30 0 (31 + 1))) 31 0 (32 + 1))) 31 1 (57 + 1))) 31 2 (82 + 1))) 31 3 (107 + 1))) 31 4 (132 + 1)).2 30 0 = 31 + 1 := by
      (repeat (first | refine Eq.trans (gR_a (by omega)) ?_ | refine Eq.trans (gi_2 (by omega)) ?_ | refine Eq.trans (gR_k (by omega)) ?_ | refine Eq.trans (zu0_ne2 (by omega)) ?_ | refine Eq.trans (gI_2) ?_)) <;> first | exact g0_hit2 | exact gR_hit | rfl
    have z2 := z1.symm.trans z
    omega
  have z1 : (zuR (zini 132 157 (zuR (zini 107 132 (zuR (zini 82 107 (zuR (zini 57 82 (zuR (zini 32 57 (zuR (zu0 (zu0 σ 30) 31) 30 0 (31 + 1))) 31 0 (32 + 1))) 31 1 (57 + 1))) 31 2 (82 + 1))) 31 3 (107 + 1))) 31 4 (132 + 1)).2 30 0 = 31 + 1 := by
    (repeat (first | refine Eq.trans (gR_a (by omega)) ?_ | refine Eq.trans (gi_2 (by omega)) ?_ | refine Eq.trans (gR_k (by omega)) ?_ | refine Eq.trans (zu0_ne2 (by omega)) ?_ | refine Eq.trans (gI_2) ?_)) <;> first | exact g0_hit2 | exact gR_hit | rfl
  obtain rfl : q = 31 := by
    have z2 := hq.symm.trans z1
    omega
  clear hq z1
  rw [show zlay 31 = (23, 13) from rfl]
  refine And.intro rfl (And.intro rfl (And.intro (by omega) ?_))
  refine ⟨zno, 182, by omega, zsl_mono (by omega), zCl.use (n_X4 157 (zuR (zini 132 157 (zuR (zini 107 132 (zuR (zini 82 107 (zuR (zini 57 82 (zuR (zini 32 57 (zuR (zu0 (zu0 σ 30) 31) 30 0 (31 + 1))) 31 0 (32 + 1))) 31 1 (57 + 1))) 31 2 (82 + 1))) 31 3 (107 + 1))) 31 4 (132 + 1)) (by omega) (by decide +kernel)) (by decide) ?_⟩
  rintro _ σz ⟨rfl, hz0⟩
  subst σz
  refine And.intro (vp_in_iff.mpr (by decide)) ?_
  refine And.intro ?_ (fun q hq => ?_)
  · intro z
    have z1 : (zuR (zini 157 182 (zuR (zini 132 157 (zuR (zini 107 132 (zuR (zini 82 107 (zuR (zini 57 82 (zuR (zini 32 57 (zuR (zu0 (zu0 σ 30) 31) 30 0 (31 + 1))) 31 0 (32 + 1))) 31 1 (57 + 1))) 31 2 (82 + 1))) 31 3 (107 + 1))) 31 4 (132 + 1))) 31 5 (157 + 1)).2 30 0 = 31 + 1 := by
      (repeat (first | refine Eq.trans (gR_a (by omega)) ?_ | refine Eq.trans (gi_2 (by omega)) ?_ | refine Eq.trans (gR_k (by omega)) ?_ | refine Eq.trans (zu0_ne2 (by omega)) ?_ | refine Eq.trans (gI_2) ?_)) <;> first | exact g0_hit2 | exact gR_hit | rfl
    have z2 := z1.symm.trans z
    omega
  have z1 : (zuR (zini 157 182 (zuR (zini 132 157 (zuR (zini 107 132 (zuR (zini 82 107 (zuR (zini 57 82 (zuR (zini 32 57 (zuR (zu0 (zu0 σ 30) 31) 30 0 (31 + 1))) 31 0 (32 + 1))) 31 1 (57 + 1))) 31 2 (82 + 1))) 31 3 (107 + 1))) 31 4 (132 + 1))) 31 5 (157 + 1)).2 30 0 = 31 + 1 := by
    (repeat (first | refine Eq.trans (gR_a (by omega)) ?_ | refine Eq.trans (gi_2 (by omega)) ?_ | refine Eq.trans (gR_k (by omega)) ?_ | refine Eq.trans (zu0_ne2 (by omega)) ?_ | refine Eq.trans (gI_2) ?_)) <;> first | exact g0_hit2 | exact gR_hit | rfl
  obtain rfl : q = 31 := by
    have z2 := hq.symm.trans z1
    omega
  clear hq z1
  rw [show zlay 31 = (23, 13) from rfl]
  refine And.intro (fun z => absurd z (by decide)) (fun _ => ?_)
  refine And.intro ?_ (fun q hq => ?_)
  · intro z
    have z1 : (zuR (zini 157 182 (zuR (zini 132 157 (zuR (zini 107 132 (zuR (zini 82 107 (zuR (zini 57 82 (zuR (zini 32 57 (zuR (zu0 (zu0 σ 30) 31) 30 0 (31 + 1))) 31 0 (32 + 1))) 31 1 (57 + 1))) 31 2 (82 + 1))) 31 3 (107 + 1))) 31 4 (132 + 1))) 31 5 (157 + 1)).2 30 0 = 31 + 1 := by
      (repeat (first | refine Eq.trans (gR_a (by omega)) ?_ | refine Eq.trans (gi_2 (by omega)) ?_ | refine Eq.trans (gR_k (by omega)) ?_ | refine Eq.trans (zu0_ne2 (by omega)) ?_ | refine Eq.trans (gI_2) ?_)) <;> first | exact g0_hit2 | exact gR_hit | rfl
    have z2 := z1.symm.trans z
    omega
  have z1 : (zuR (zini 157 182 (zuR (zini 132 157 (zuR (zini 107 132 (zuR (zini 82 107 (zuR (zini 57 82 (zuR (zini 32 57 (zuR (zu0 (zu0 σ 30) 31) 30 0 (31 + 1))) 31 0 (32 + 1))) 31 1 (57 + 1))) 31 2 (82 + 1))) 31 3 (107 + 1))) 31 4 (132 + 1))) 31 5 (157 + 1)).2 30 0 = 31 + 1 := by
    (repeat (first | refine Eq.trans (gR_a (by omega)) ?_ | refine Eq.trans (gi_2 (by omega)) ?_ | refine Eq.trans (gR_k (by omega)) ?_ | refine Eq.trans (zu0_ne2 (by omega)) ?_ | refine Eq.trans (gI_2) ?_)) <;> first | exact g0_hit2 | exact gR_hit | rfl
  obtain rfl : q = 31 := by
    have z2 := hq.symm.trans z1
    omega
  clear hq z1
  rw [show zlay 31 = (23, 13) from rfl]
  refine And.intro rfl (And.intro rfl (And.intro (by omega) ?_))
  refine ⟨zno, 207, by omega, zsl_mono (by omega), zCl.use (n_X4 182 (zuR (zini 157 182 (zuR (zini 132 157 (zuR (zini 107 132 (zuR (zini 82 107 (zuR (zini 57 82 (zuR (zini 32 57 (zuR (zu0 (zu0 σ 30) 31) 30 0 (31 + 1))) 31 0 (32 + 1))) 31 1 (57 + 1))) 31 2 (82 + 1))) 31 3 (107 + 1))) 31 4 (132 + 1))) 31 5 (157 + 1)) (by omega) (by decide +kernel)) (by decide) ?_⟩
  rintro _ σz ⟨rfl, hz0⟩
  subst σz
  refine And.intro (vp_in_iff.mpr (by decide)) ?_
  refine And.intro ?_ (fun q hq => ?_)
  · intro z
    have z1 : (zuR (zini 182 207 (zuR (zini 157 182 (zuR (zini 132 157 (zuR (zini 107 132 (zuR (zini 82 107 (zuR (zini 57 82 (zuR (zini 32 57 (zuR (zu0 (zu0 σ 30) 31) 30 0 (31 + 1))) 31 0 (32 + 1))) 31 1 (57 + 1))) 31 2 (82 + 1))) 31 3 (107 + 1))) 31 4 (132 + 1))) 31 5 (157 + 1))) 31 6 (182 + 1)).2 30 0 = 31 + 1 := by
      (repeat (first | refine Eq.trans (gR_a (by omega)) ?_ | refine Eq.trans (gi_2 (by omega)) ?_ | refine Eq.trans (gR_k (by omega)) ?_ | refine Eq.trans (zu0_ne2 (by omega)) ?_ | refine Eq.trans (gI_2) ?_)) <;> first | exact g0_hit2 | exact gR_hit | rfl
    have z2 := z1.symm.trans z
    omega
  have z1 : (zuR (zini 182 207 (zuR (zini 157 182 (zuR (zini 132 157 (zuR (zini 107 132 (zuR (zini 82 107 (zuR (zini 57 82 (zuR (zini 32 57 (zuR (zu0 (zu0 σ 30) 31) 30 0 (31 + 1))) 31 0 (32 + 1))) 31 1 (57 + 1))) 31 2 (82 + 1))) 31 3 (107 + 1))) 31 4 (132 + 1))) 31 5 (157 + 1))) 31 6 (182 + 1)).2 30 0 = 31 + 1 := by
    (repeat (first | refine Eq.trans (gR_a (by omega)) ?_ | refine Eq.trans (gi_2 (by omega)) ?_ | refine Eq.trans (gR_k (by omega)) ?_ | refine Eq.trans (zu0_ne2 (by omega)) ?_ | refine Eq.trans (gI_2) ?_)) <;> first | exact g0_hit2 | exact gR_hit | rfl
  obtain rfl : q = 31 := by
    have z2 := hq.symm.trans z1
    omega
  clear hq z1
  rw [show zlay 31 = (23, 13) from rfl]
  refine And.intro (fun z => absurd z (by decide)) (fun _ => ?_)
  refine And.intro ?_ (fun q hq => ?_)
  · intro z
    have z1 : (zuR (zini 182 207 (zuR (zini 157 182 (zuR (zini 132 157 (zuR (zini 107 132 (zuR (zini 82 107 (zuR (zini 57 82 (zuR (zini 32 57 (zuR (zu0 (zu0 σ 30) 31) 30 0 (31 + 1))) 31 0 (32 + 1))) 31 1 (57 + 1))) 31 2 (82 + 1))) 31 3 (107 + 1))) 31 4 (132 + 1))) 31 5 (157 + 1))) 31 6 (182 + 1)).2 30 0 = 31 + 1 := by
      (repeat (first | refine Eq.trans (gR_a (by omega)) ?_ | refine Eq.trans (gi_2 (by omega)) ?_ | refine Eq.trans (gR_k (by omega)) ?_ | refine Eq.trans (zu0_ne2 (by omega)) ?_ | refine Eq.trans (gI_2) ?_)) <;> first | exact g0_hit2 | exact gR_hit | rfl
    have z2 := z1.symm.trans z
    omega
  have z1 : (zuR (zini 182 207 (zuR (zini 157 182 (zuR (zini 132 157 (zuR (zini 107 132 (zuR (zini 82 107 (zuR (zini 57 82 (zuR (zini 32 57 (zuR (zu0 (zu0 σ 30) 31) 30 0 (31 + 1))) 31 0 (32 + 1))) 31 1 (57 + 1))) 31 2 (82 + 1))) 31 3 (107 + 1))) 31 4 (132 + 1))) 31 5 (157 + 1))) 31 6 (182 + 1)).2 30 0 = 31 + 1 := by
    (repeat (first | refine Eq.trans (gR_a (by omega)) ?_ | refine Eq.trans (gi_2 (by omega)) ?_ | refine Eq.trans (gR_k (by omega)) ?_ | refine Eq.trans (zu0_ne2 (by omega)) ?_ | refine Eq.trans (gI_2) ?_)) <;> first | exact g0_hit2 | exact gR_hit | rfl
  obtain rfl : q = 31 := by
    have z2 := hq.symm.trans z1
    omega
  clear hq z1
  rw [show zlay 31 = (23, 13) from rfl]
  refine And.intro rfl (And.intro rfl (And.intro (by omega) ?_))
  refine ⟨zno, 232, by omega, zsl_mono (by omega), zCl.use (n_X4 207 (zuR (zini 182 207 (zuR (zini 157 182 (zuR (zini 132 157 (zuR (zini 107 132 (zuR (zini 82 107 (zuR (zini 57 82 (zuR (zini 32 57 (zuR (zu0 (zu0 σ 30) 31) 30 0 (31 + 1))) 31 0 (32 + 1))) 31 1 (57 + 1))) 31 2 (82 + 1))) 31 3 (107 + 1))) 31 4 (132 + 1))) 31 5 (157 + 1))) 31 6 (182 + 1)) (by omega) (by decide +kernel)) (by decide) ?_⟩
  rintro _ σz ⟨rfl, hz0⟩
  subst σz
  refine And.intro (vp_in_iff.mpr (by decide)) ?_
  refine And.intro ?_ (fun q hq => ?_)
  · intro z
    have z1 : (zuR (zini 207 232 (zuR (zini 182 207 (zuR (zini 157 182 (zuR (zini 132 157 (zuR (zini 107 132 (zuR (zini 82 107 (zuR (zini 57 82 (zuR (zini 32 57 (zuR (zu0 (zu0 σ 30) 31) 30 0 (31 + 1))) 31 0 (32 + 1))) 31 1 (57 + 1))) 31 2 (82 + 1))) 31 3 (107 + 1))) 31 4 (132 + 1))) 31 5 (157 + 1))) 31 6 (182 + 1))) 31 7 (207 + 1)).2 30 0 = 31 + 1 := by
      (repeat (first | refine Eq.trans (gR_a (by omega)) ?_ | refine Eq.trans (gi_2 (by omega)) ?_ | refine Eq.trans (gR_k (by omega)) ?_ | refine Eq.trans (zu0_ne2 (by omega)) ?_ | refine Eq.trans (gI_2) ?_)) <;> first | exact g0_hit2 | exact gR_hit | rfl
    have z2 := z1.symm.trans z
    omega
  have z1 : (zuR (zini 207 232 (zuR (zini 182 207 (zuR (zini 157 182 (zuR (zini 132 157 (zuR (zini 107 132 (zuR (zini 82 107 (zuR (zini 57 82 (zuR (zini 32 57 (zuR (zu0 (zu0 σ 30) 31) 30 0 (31 + 1))) 31 0 (32 + 1))) 31 1 (57 + 1))) 31 2 (82 + 1))) 31 3 (107 + 1))) 31 4 (132 + 1))) 31 5 (157 + 1))) 31 6 (182 + 1))) 31 7 (207 + 1)).2 30 0 = 31 + 1 := by
    (repeat (first | refine Eq.trans (gR_a (by omega)) ?_ | refine Eq.trans (gi_2 (by omega)) ?_ | refine Eq.trans (gR_k (by omega)) ?_ | refine Eq.trans (zu0_ne2 (by omega)) ?_ | refine Eq.trans (gI_2) ?_)) <;> first | exact g0_hit2 | exact gR_hit | rfl
  obtain rfl : q = 31 := by
    have z2 := hq.symm.trans z1
    omega
  clear hq z1
  rw [show zlay 31 = (23, 13) from rfl]
  refine And.intro (fun z => absurd z (by decide)) (fun _ => ?_)
  refine And.intro ?_ (fun q hq => ?_)
  · intro z
    have z1 : (zuR (zini 207 232 (zuR (zini 182 207 (zuR (zini 157 182 (zuR (zini 132 157 (zuR (zini 107 132 (zuR (zini 82 107 (zuR (zini 57 82 (zuR (zini 32 57 (zuR (zu0 (zu0 σ 30) 31) 30 0 (31 + 1))) 31 0 (32 + 1))) 31 1 (57 + 1))) 31 2 (82 + 1))) 31 3 (107 + 1))) 31 4 (132 + 1))) 31 5 (157 + 1))) 31 6 (182 + 1))) 31 7 (207 + 1)).2 30 0 = 31 + 1 := by
      (repeat (first | refine Eq.trans (gR_a (by omega)) ?_ | refine Eq.trans (gi_2 (by omega)) ?_ | refine Eq.trans (gR_k (by omega)) ?_ | refine Eq.trans (zu0_ne2 (by omega)) ?_ | refine Eq.trans (gI_2) ?_)) <;> first | exact g0_hit2 | exact gR_hit | rfl
    have z2 := z1.symm.trans z
    omega
  have z1 : (zuR (zini 207 232 (zuR (zini 182 207 (zuR (zini 157 182 (zuR (zini 132 157 (zuR (zini 107 132 (zuR (zini 82 107 (zuR (zini 57 82 (zuR (zini 32 57 (zuR (zu0 (zu0 σ 30) 31) 30 0 (31 + 1))) 31 0 (32 + 1))) 31 1 (57 + 1))) 31 2 (82 + 1))) 31 3 (107 + 1))) 31 4 (132 + 1))) 31 5 (157 + 1))) 31 6 (182 + 1))) 31 7 (207 + 1)).2 30 0 = 31 + 1 := by
    (repeat (first | refine Eq.trans (gR_a (by omega)) ?_ | refine Eq.trans (gi_2 (by omega)) ?_ | refine Eq.trans (gR_k (by omega)) ?_ | refine Eq.trans (zu0_ne2 (by omega)) ?_ | refine Eq.trans (gI_2) ?_)) <;> first | exact g0_hit2 | exact gR_hit | rfl
  obtain rfl : q = 31 := by
    have z2 := hq.symm.trans z1
    omega
  clear hq z1
  rw [show zlay 31 = (23, 13) from rfl]
  refine And.intro rfl (And.intro rfl (And.intro (by omega) ?_))
  refine ⟨zno, 257, by omega, zsl_mono (by omega), zCl.use (n_X4 232 (zuR (zini 207 232 (zuR (zini 182 207 (zuR (zini 157 182 (zuR (zini 132 157 (zuR (zini 107 132 (zuR (zini 82 107 (zuR (zini 57 82 (zuR (zini 32 57 (zuR (zu0 (zu0 σ 30) 31) 30 0 (31 + 1))) 31 0 (32 + 1))) 31 1 (57 + 1))) 31 2 (82 + 1))) 31 3 (107 + 1))) 31 4 (132 + 1))) 31 5 (157 + 1))) 31 6 (182 + 1))) 31 7 (207 + 1)) (by omega) (by decide +kernel)) (by decide) ?_⟩
  rintro _ σz ⟨rfl, hz0⟩
  subst σz
  refine And.intro (vp_in_iff.mpr (by decide)) ?_
  refine And.intro ?_ (fun q hq => ?_)
  · intro z
    have z1 : (zuR (zini 232 257 (zuR (zini 207 232 (zuR (zini 182 207 (zuR (zini 157 182 (zuR (zini 132 157 (zuR (zini 107 132 (zuR (zini 82 107 (zuR (zini 57 82 (zuR (zini 32 57 (zuR (zu0 (zu0 σ 30) 31) 30 0 (31 + 1))) 31 0 (32 + 1))) 31 1 (57 + 1))) 31 2 (82 + 1))) 31 3 (107 + 1))) 31 4 (132 + 1))) 31 5 (157 + 1))) 31 6 (182 + 1))) 31 7 (207 + 1))) 31 8 (232 + 1)).2 30 0 = 31 + 1 := by
      (repeat (first | refine Eq.trans (gR_a (by omega)) ?_ | refine Eq.trans (gi_2 (by omega)) ?_ | refine Eq.trans (gR_k (by omega)) ?_ | refine Eq.trans (zu0_ne2 (by omega)) ?_ | refine Eq.trans (gI_2) ?_)) <;> first | exact g0_hit2 | exact gR_hit | rfl
    have z2 := z1.symm.trans z
    omega
  have z1 : (zuR (zini 232 257 (zuR (zini 207 232 (zuR (zini 182 207 (zuR (zini 157 182 (zuR (zini 132 157 (zuR (zini 107 132 (zuR (zini 82 107 (zuR (zini 57 82 (zuR (zini 32 57 (zuR (zu0 (zu0 σ 30) 31) 30 0 (31 + 1))) 31 0 (32 + 1))) 31 1 (57 + 1))) 31 2 (82 + 1))) 31 3 (107 + 1))) 31 4 (132 + 1))) 31 5 (157 + 1))) 31 6 (182 + 1))) 31 7 (207 + 1))) 31 8 (232 + 1)).2 30 0 = 31 + 1 := by
    (repeat (first | refine Eq.trans (gR_a (by omega)) ?_ | refine Eq.trans (gi_2 (by omega)) ?_ | refine Eq.trans (gR_k (by omega)) ?_ | refine Eq.trans (zu0_ne2 (by omega)) ?_ | refine Eq.trans (gI_2) ?_)) <;> first | exact g0_hit2 | exact gR_hit | rfl
  obtain rfl : q = 31 := by
    have z2 := hq.symm.trans z1
    omega
  clear hq z1
  rw [show zlay 31 = (23, 13) from rfl]
  refine And.intro (fun z => absurd z (by decide)) (fun _ => ?_)
  refine And.intro ?_ (fun q hq => ?_)
  · intro z
    have z1 : (zuR (zini 232 257 (zuR (zini 207 232 (zuR (zini 182 207 (zuR (zini 157 182 (zuR (zini 132 157 (zuR (zini 107 132 (zuR (zini 82 107 (zuR (zini 57 82 (zuR (zini 32 57 (zuR (zu0 (zu0 σ 30) 31) 30 0 (31 + 1))) 31 0 (32 + 1))) 31 1 (57 + 1))) 31 2 (82 + 1))) 31 3 (107 + 1))) 31 4 (132 + 1))) 31 5 (157 + 1))) 31 6 (182 + 1))) 31 7 (207 + 1))) 31 8 (232 + 1)).2 30 0 = 31 + 1 := by
      (repeat (first | refine Eq.trans (gR_a (by omega)) ?_ | refine Eq.trans (gi_2 (by omega)) ?_ | refine Eq.trans (gR_k (by omega)) ?_ | refine Eq.trans (zu0_ne2 (by omega)) ?_ | refine Eq.trans (gI_2) ?_)) <;> first | exact g0_hit2 | exact gR_hit | rfl
    have z2 := z1.symm.trans z
    omega
  have z1 : (zuR (zini 232 257 (zuR (zini 207 232 (zuR (zini 182 207 (zuR (zini 157 182 (zuR (zini 132 157 (zuR (zini 107 132 (zuR (zini 82 107 (zuR (zini 57 82 (zuR (zini 32 57 (zuR (zu0 (zu0 σ 30) 31) 30 0 (31 + 1))) 31 0 (32 + 1))) 31 1 (57 + 1))) 31 2 (82 + 1))) 31 3 (107 + 1))) 31 4 (132 + 1))) 31 5 (157 + 1))) 31 6 (182 + 1))) 31 7 (207 + 1))) 31 8 (232 + 1)).2 30 0 = 31 + 1 := by
    (repeat (first | refine Eq.trans (gR_a (by omega)) ?_ | refine Eq.trans (gi_2 (by omega)) ?_ | refine Eq.trans (gR_k (by omega)) ?_ | refine Eq.trans (zu0_ne2 (by omega)) ?_ | refine Eq.trans (gI_2) ?_)) <;> first | exact g0_hit2 | exact gR_hit | rfl
  obtain rfl : q = 31 := by
    have z2 := hq.symm.trans z1
    omega
  clear hq z1
  rw [show zlay 31 = (23, 13) from rfl]
  refine And.intro rfl (And.intro rfl (And.intro (by omega) ?_))
  refine ⟨zno, 282, by omega, zsl_mono (by omega), zCl.use (n_X4 257 (zuR (zini 232 257 (zuR (zini 207 232 (zuR (zini 182 207 (zuR (zini 157 182 (zuR (zini 132 157 (zuR (zini 107 132 (zuR (zini 82 107 (zuR (zini 57 82 (zuR (zini 32 57 (zuR (zu0 (zu0 σ 30) 31) 30 0 (31 + 1))) 31 0 (32 + 1))) 31 1 (57 + 1))) 31 2 (82 + 1))) 31 3 (107 + 1))) 31 4 (132 + 1))) 31 5 (157 + 1))) 31 6 (182 + 1))) 31 7 (207 + 1))) 31 8 (232 + 1)) (by omega) (by decide +kernel)) (by decide) ?_⟩
  rintro _ σz ⟨rfl, hz0⟩
  subst σz
  refine And.intro (vp_in_iff.mpr (by decide)) ?_
  refine And.intro ?_ (fun q hq => ?_)
  · intro z
    have z1 : (zuR (zini 257 282 (zuR (zini 232 257 (zuR (zini 207 232 (zuR (zini 182 207 (zuR (zini 157 182 (zuR (zini 132 157 (zuR (zini 107 132 (zuR (zini 82 107 (zuR (zini 57 82 (zuR (zini 32 57 (zuR (zu0 (zu0 σ 30) 31) 30 0 (31 + 1))) 31 0 (32 + 1))) 31 1 (57 + 1))) 31 2 (82 + 1))) 31 3 (107 + 1))) 31 4 (132 + 1))) 31 5 (157 + 1))) 31 6 (182 + 1))) 31 7 (207 + 1))) 31 8 (232 + 1))) 31 9 (257 + 1)).2 30 0 = 31 + 1 := by
      (repeat (first | refine Eq.trans (gR_a (by omega)) ?_ | refine Eq.trans (gi_2 (by omega)) ?_ | refine Eq.trans (gR_k (by omega)) ?_ | refine Eq.trans (zu0_ne2 (by omega)) ?_ | refine Eq.trans (gI_2) ?_)) <;> first | exact g0_hit2 | exact gR_hit | rfl
    have z2 := z1.symm.trans z
    omega
  have z1 : (zuR (zini 257 282 (zuR (zini 232 257 (zuR (zini 207 232 (zuR (zini 182 207 (zuR (zini 157 182 (zuR (zini 132 157 (zuR (zini 107 132 (zuR (zini 82 107 (zuR (zini 57 82 (zuR (zini 32 57 (zuR (zu0 (zu0 σ 30) 31) 30 0 (31 + 1))) 31 0 (32 + 1))) 31 1 (57 + 1))) 31 2 (82 + 1))) 31 3 (107 + 1))) 31 4 (132 + 1))) 31 5 (157 + 1))) 31 6 (182 + 1))) 31 7 (207 + 1))) 31 8 (232 + 1))) 31 9 (257 + 1)).2 30 0 = 31 + 1 := by
    (repeat (first | refine Eq.trans (gR_a (by omega)) ?_ | refine Eq.trans (gi_2 (by omega)) ?_ | refine Eq.trans (gR_k (by omega)) ?_ | refine Eq.trans (zu0_ne2 (by omega)) ?_ | refine Eq.trans (gI_2) ?_)) <;> first | exact g0_hit2 | exact gR_hit | rfl
  obtain rfl : q = 31 := by
    have z2 := hq.symm.trans z1
    omega
  clear hq z1
  rw [show zlay 31 = (23, 13) from rfl]
  refine And.intro (fun z => absurd z (by decide)) (fun _ => ?_)
  refine And.intro ?_ (fun q hq => ?_)
  · intro z
    have z1 : (zuR (zini 257 282 (zuR (zini 232 257 (zuR (zini 207 232 (zuR (zini 182 207 (zuR (zini 157 182 (zuR (zini 132 157 (zuR (zini 107 132 (zuR (zini 82 107 (zuR (zini 57 82 (zuR (zini 32 57 (zuR (zu0 (zu0 σ 30) 31) 30 0 (31 + 1))) 31 0 (32 + 1))) 31 1 (57 + 1))) 31 2 (82 + 1))) 31 3 (107 + 1))) 31 4 (132 + 1))) 31 5 (157 + 1))) 31 6 (182 + 1))) 31 7 (207 + 1))) 31 8 (232 + 1))) 31 9 (257 + 1)).2 30 0 = 31 + 1 := by
      (repeat (first | refine Eq.trans (gR_a (by omega)) ?_ | refine Eq.trans (gi_2 (by omega)) ?_ | refine Eq.trans (gR_k (by omega)) ?_ | refine Eq.trans (zu0_ne2 (by omega)) ?_ | refine Eq.trans (gI_2) ?_)) <;> first | exact g0_hit2 | exact gR_hit | rfl
    have z2 := z1.symm.trans z
    omega
  have z1 : (zuR (zini 257 282 (zuR (zini 232 257 (zuR (zini 207 232 (zuR (zini 182 207 (zuR (zini 157 182 (zuR (zini 132 157 (zuR (zini 107 132 (zuR (zini 82 107 (zuR (zini 57 82 (zuR (zini 32 57 (zuR (zu0 (zu0 σ 30) 31) 30 0 (31 + 1))) 31 0 (32 + 1))) 31 1 (57 + 1))) 31 2 (82 + 1))) 31 3 (107 + 1))) 31 4 (132 + 1))) 31 5 (157 + 1))) 31 6 (182 + 1))) 31 7 (207 + 1))) 31 8 (232 + 1))) 31 9 (257 + 1)).2 30 0 = 31 + 1 := by
    (repeat (first | refine Eq.trans (gR_a (by omega)) ?_ | refine Eq.trans (gi_2 (by omega)) ?_ | refine Eq.trans (gR_k (by omega)) ?_ | refine Eq.trans (zu0_ne2 (by omega)) ?_ | refine Eq.trans (gI_2) ?_)) <;> first | exact g0_hit2 | exact gR_hit | rfl
  obtain rfl : q = 31 := by
    have z2 := hq.symm.trans z1
    omega
  clear hq z1
  rw [show zlay 31 = (23, 13) from rfl]
  refine And.intro rfl (And.intro rfl (And.intro (by omega) ?_))
  refine ⟨zno, 307, by omega, zsl_mono (by omega), zCl.use (n_X4 282 (zuR (zini 257 282 (zuR (zini 232 257 (zuR (zini 207 232 (zuR (zini 182 207 (zuR (zini 157 182 (zuR (zini 132 157 (zuR (zini 107 132 (zuR (zini 82 107 (zuR (zini 57 82 (zuR (zini 32 57 (zuR (zu0 (zu0 σ 30) 31) 30 0 (31 + 1))) 31 0 (32 + 1))) 31 1 (57 + 1))) 31 2 (82 + 1))) 31 3 (107 + 1))) 31 4 (132 + 1))) 31 5 (157 + 1))) 31 6 (182 + 1))) 31 7 (207 + 1))) 31 8 (232 + 1))) 31 9 (257 + 1)) (by omega) (by decide +kernel)) (by decide) ?_⟩
  rintro _ σz ⟨rfl, hz0⟩
  subst σz
  refine And.intro (vp_in_iff.mpr (by decide)) ?_
  refine And.intro ?_ (fun q hq => ?_)
  · intro z
    have z1 : (zuR (zini 282 307 (zuR (zini 257 282 (zuR (zini 232 257 (zuR (zini 207 232 (zuR (zini 182 207 (zuR (zini 157 182 (zuR (zini 132 157 (zuR (zini 107 132 (zuR (zini 82 107 (zuR (zini 57 82 (zuR (zini 32 57 (zuR (zu0 (zu0 σ 30) 31) 30 0 (31 + 1))) 31 0 (32 + 1))) 31 1 (57 + 1))) 31 2 (82 + 1))) 31 3 (107 + 1))) 31 4 (132 + 1))) 31 5 (157 + 1))) 31 6 (182 + 1))) 31 7 (207 + 1))) 31 8 (232 + 1))) 31 9 (257 + 1))) 31 10 (282 + 1)).2 30 0 = 31 + 1 := by
      (repeat (first | refine Eq.trans (gR_a (by omega)) ?_ | refine Eq.trans (gi_2 (by omega)) ?_ | refine Eq.trans (gR_k (by omega)) ?_ | refine Eq.trans (zu0_ne2 (by omega)) ?_ | refine Eq.trans (gI_2) ?_)) <;> first | exact g0_hit2 | exact gR_hit | rfl
    have z2 := z1.symm.trans z
    omega
  have z1 : (zuR (zini 282 307 (zuR (zini 257 282 (zuR (zini 232 257 (zuR (zini 207 232 (zuR (zini 182 207 (zuR (zini 157 182 (zuR (zini 132 157 (zuR (zini 107 132 (zuR (zini 82 107 (zuR (zini 57 82 (zuR (zini 32 57 (zuR (zu0 (zu0 σ 30) 31) 30 0 (31 + 1))) 31 0 (32 + 1))) 31 1 (57 + 1))) 31 2 (82 + 1))) 31 3 (107 + 1))) 31 4 (132 + 1))) 31 5 (157 + 1))) 31 6 (182 + 1))) 31 7 (207 + 1))) 31 8 (232 + 1))) 31 9 (257 + 1))) 31 10 (282 + 1)).2 30 0 = 31 + 1 := by
    (repeat (first | refine Eq.trans (gR_a (by omega)) ?_ | refine Eq.trans (gi_2 (by omega)) ?_ | refine Eq.trans (gR_k (by omega)) ?_ | refine Eq.trans (zu0_ne2 (by omega)) ?_ | refine Eq.trans (gI_2) ?_)) <;> first | exact g0_hit2 | exact gR_hit | rfl
  obtain rfl : q = 31 := by
    have z2 := hq.symm.trans z1
    omega
  clear hq z1
  rw [show zlay 31 = (23, 13) from rfl]
  refine And.intro (fun z => absurd z (by decide)) (fun _ => ?_)
  refine And.intro ?_ (fun q hq => ?_)
  · intro z
    have z1 : (zuR (zini 282 307 (zuR (zini 257 282 (zuR (zini 232 257 (zuR (zini 207 232 (zuR (zini 182 207 (zuR (zini 157 182 (zuR (zini 132 157 (zuR (zini 107 132 (zuR (zini 82 107 (zuR (zini 57 82 (zuR (zini 32 57 (zuR (zu0 (zu0 σ 30) 31) 30 0 (31 + 1))) 31 0 (32 + 1))) 31 1 (57 + 1))) 31 2 (82 + 1))) 31 3 (107 + 1))) 31 4 (132 + 1))) 31 5 (157 + 1))) 31 6 (182 + 1))) 31 7 (207 + 1))) 31 8 (232 + 1))) 31 9 (257 + 1))) 31 10 (282 + 1)).2 30 0 = 31 + 1 := by
      (repeat (first | refine Eq.trans (gR_a (by omega)) ?_ | refine Eq.trans (gi_2 (by omega)) ?_ | refine Eq.trans (gR_k (by omega)) ?_ | refine Eq.trans (zu0_ne2 (by omega)) ?_ | refine Eq.trans (gI_2) ?_)) <;> first | exact g0_hit2 | exact gR_hit | rfl
    have z2 := z1.symm.trans z
    omega
  have z1 : (zuR (zini 282 307 (zuR (zini 257 282 (zuR (zini 232 257 (zuR (zini 207 232 (zuR (zini 182 207 (zuR (zini 157 182 (zuR (zini 132 157 (zuR (zini 107 132 (zuR (zini 82 107 (zuR (zini 57 82 (zuR (zini 32 57 (zuR (zu0 (zu0 σ 30) 31) 30 0 (31 + 1))) 31 0 (32 + 1))) 31 1 (57 + 1))) 31 2 (82 + 1))) 31 3 (107 + 1))) 31 4 (132 + 1))) 31 5 (157 + 1))) 31 6 (182 + 1))) 31 7 (207 + 1))) 31 8 (232 + 1))) 31 9 (257 + 1))) 31 10 (282 + 1)).2 30 0 = 31 + 1 := by
    (repeat (first | refine Eq.trans (gR_a (by omega)) ?_ | refine Eq.trans (gi_2 (by omega)) ?_ | refine Eq.trans (gR_k (by omega)) ?_ | refine Eq.trans (zu0_ne2 (by omega)) ?_ | refine Eq.trans (gI_2) ?_)) <;> first | exact g0_hit2 | exact gR_hit | rfl
  obtain rfl : q = 31 := by
    have z2 := hq.symm.trans z1
    omega
  clear hq z1
  rw [show zlay 31 = (23, 13) from rfl]
  refine And.intro rfl (And.intro rfl (And.intro (by omega) ?_))
  refine ⟨zno, 332, by omega, zsl_mono (by omega), zCl.use (n_X4 307 (zuR (zini 282 307 (zuR (zini 257 282 (zuR (zini 232 257 (zuR (zini 207 232 (zuR (zini 182 207 (zuR (zini 157 182 (zuR (zini 132 157 (zuR (zini 107 132 (zuR (zini 82 107 (zuR (zini 57 82 (zuR (zini 32 57 (zuR (zu0 (zu0 σ 30) 31) 30 0 (31 + 1))) 31 0 (32 + 1))) 31 1 (57 + 1))) 31 2 (82 + 1))) 31 3 (107 + 1))) 31 4 (132 + 1))) 31 5 (157 + 1))) 31 6 (182 + 1))) 31 7 (207 + 1))) 31 8 (232 + 1))) 31 9 (257 + 1))) 31 10 (282 + 1)) (by omega) (by decide +kernel)) (by decide) ?_⟩
  rintro _ σz ⟨rfl, hz0⟩
  subst σz
  refine And.intro (vp_in_iff.mpr (by decide)) ?_
  refine And.intro ?_ (fun q hq => ?_)
  · intro z
    have z1 : (zuR (zini 307 332 (zuR (zini 282 307 (zuR (zini 257 282 (zuR (zini 232 257 (zuR (zini 207 232 (zuR (zini 182 207 (zuR (zini 157 182 (zuR (zini 132 157 (zuR (zini 107 132 (zuR (zini 82 107 (zuR (zini 57 82 (zuR (zini 32 57 (zuR (zu0 (zu0 σ 30) 31) 30 0 (31 + 1))) 31 0 (32 + 1))) 31 1 (57 + 1))) 31 2 (82 + 1))) 31 3 (107 + 1))) 31 4 (132 + 1))) 31 5 (157 + 1))) 31 6 (182 + 1))) 31 7 (207 + 1))) 31 8 (232 + 1))) 31 9 (257 + 1))) 31 10 (282 + 1))) 31 11 (307 + 1)).2 30 0 = 31 + 1 := by
      (repeat (first | refine Eq.trans (gR_a (by omega)) ?_ | refine Eq.trans (gi_2 (by omega)) ?_ | refine Eq.trans (gR_k (by omega)) ?_ | refine Eq.trans (zu0_ne2 (by omega)) ?_ | refine Eq.trans (gI_2) ?_)) <;> first | exact g0_hit2 | exact gR_hit | rfl
    have z2 := z1.symm.trans z
    omega
  have z1 : (zuR (zini 307 332 (zuR (zini 282 307 (zuR (zini 257 282 (zuR (zini 232 257 (zuR (zini 207 232 (zuR (zini 182 207 (zuR (zini 157 182 (zuR (zini 132 157 (zuR (zini 107 132 (zuR (zini 82 107 (zuR (zini 57 82 (zuR (zini 32 57 (zuR (zu0 (zu0 σ 30) 31) 30 0 (31 + 1))) 31 0 (32 + 1))) 31 1 (57 + 1))) 31 2 (82 + 1))) 31 3 (107 + 1))) 31 4 (132 + 1))) 31 5 (157 + 1))) 31 6 (182 + 1))) 31 7 (207 + 1))) 31 8 (232 + 1))) 31 9 (257 + 1))) 31 10 (282 + 1))) 31 11 (307 + 1)).2 30 0 = 31 + 1 := by
    (repeat (first | refine Eq.trans (gR_a (by omega)) ?_ | refine Eq.trans (gi_2 (by omega)) ?_ | refine Eq.trans (gR_k (by omega)) ?_ | refine Eq.trans (zu0_ne2 (by omega)) ?_ | refine Eq.trans (gI_2) ?_)) <;> first | exact g0_hit2 | exact gR_hit | rfl
  obtain rfl : q = 31 := by
    have z2 := hq.symm.trans z1
    omega
  clear hq z1
  rw [show zlay 31 = (23, 13) from rfl]
  refine And.intro (fun z => absurd z (by decide)) (fun _ => ?_)
  refine And.intro ?_ (fun q hq => ?_)
  · intro z
    have z1 : (zuR (zini 307 332 (zuR (zini 282 307 (zuR (zini 257 282 (zuR (zini 232 257 (zuR (zini 207 232 (zuR (zini 182 207 (zuR (zini 157 182 (zuR (zini 132 157 (zuR (zini 107 132 (zuR (zini 82 107 (zuR (zini 57 82 (zuR (zini 32 57 (zuR (zu0 (zu0 σ 30) 31) 30 0 (31 + 1))) 31 0 (32 + 1))) 31 1 (57 + 1))) 31 2 (82 + 1))) 31 3 (107 + 1))) 31 4 (132 + 1))) 31 5 (157 + 1))) 31 6 (182 + 1))) 31 7 (207 + 1))) 31 8 (232 + 1))) 31 9 (257 + 1))) 31 10 (282 + 1))) 31 11 (307 + 1)).2 30 0 = 31 + 1 := by
      (repeat (first | refine Eq.trans (gR_a (by omega)) ?_ | refine Eq.trans (gi_2 (by omega)) ?_ | refine Eq.trans (gR_k (by omega)) ?_ | refine Eq.trans (zu0_ne2 (by omega)) ?_ | refine Eq.trans (gI_2) ?_)) <;> first | exact g0_hit2 | exact gR_hit | rfl
    have z2 := z1.symm.trans z
    omega
  have z1 : (zuR (zini 307 332 (zuR (zini 282 307 (zuR (zini 257 282 (zuR (zini 232 257 (zuR (zini 207 232 (zuR (zini 182 207 (zuR (zini 157 182 (zuR (zini 132 157 (zuR (zini 107 132 (zuR (zini 82 107 (zuR (zini 57 82 (zuR (zini 32 57 (zuR (zu0 (zu0 σ 30) 31) 30 0 (31 + 1))) 31 0 (32 + 1))) 31 1 (57 + 1))) 31 2 (82 + 1))) 31 3 (107 + 1))) 31 4 (132 + 1))) 31 5 (157 + 1))) 31 6 (182 + 1))) 31 7 (207 + 1))) 31 8 (232 + 1))) 31 9 (257 + 1))) 31 10 (282 + 1))) 31 11 (307 + 1)).2 30 0 = 31 + 1 := by
    (repeat (first | refine Eq.trans (gR_a (by omega)) ?_ | refine Eq.trans (gi_2 (by omega)) ?_ | refine Eq.trans (gR_k (by omega)) ?_ | refine Eq.trans (zu0_ne2 (by omega)) ?_ | refine Eq.trans (gI_2) ?_)) <;> first | exact g0_hit2 | exact gR_hit | rfl
  obtain rfl : q = 31 := by
    have z2 := hq.symm.trans z1
    omega
  clear hq z1
  rw [show zlay 31 = (23, 13) from rfl]
  refine And.intro rfl (And.intro rfl (And.intro (by omega) ?_))
  refine ⟨zno, 357, by omega, zsl_mono (by omega), zCl.use (n_X4 332 (zuR (zini 307 332 (zuR (zini 282 307 (zuR (zini 257 282 (zuR (zini 232 257 (zuR (zini 207 232 (zuR (zini 182 207 (zuR (zini 157 182 (zuR (zini 132 157 (zuR (zini 107 132 (zuR (zini 82 107 (zuR (zini 57 82 (zuR (zini 32 57 (zuR (zu0 (zu0 σ 30) 31) 30 0 (31 + 1))) 31 0 (32 + 1))) 31 1 (57 + 1))) 31 2 (82 + 1))) 31 3 (107 + 1))) 31 4 (132 + 1))) 31 5 (157 + 1))) 31 6 (182 + 1))) 31 7 (207 + 1))) 31 8 (232 + 1))) 31 9 (257 + 1))) 31 10 (282 + 1))) 31 11 (307 + 1)) (by omega) (by decide +kernel)) (by decide) ?_⟩
  rintro _ σz ⟨rfl, hz0⟩
  subst σz
  refine And.intro (vp_in_iff.mpr (by decide)) ?_
  refine And.intro ?_ (fun q hq => ?_)
  · intro z
    have z1 : (zuR (zini 332 357 (zuR (zini 307 332 (zuR (zini 282 307 (zuR (zini 257 282 (zuR (zini 232 257 (zuR (zini 207 232 (zuR (zini 182 207 (zuR (zini 157 182 (zuR (zini 132 157 (zuR (zini 107 132 (zuR (zini 82 107 (zuR (zini 57 82 (zuR (zini 32 57 (zuR (zu0 (zu0 σ 30) 31) 30 0 (31 + 1))) 31 0 (32 + 1))) 31 1 (57 + 1))) 31 2 (82 + 1))) 31 3 (107 + 1))) 31 4 (132 + 1))) 31 5 (157 + 1))) 31 6 (182 + 1))) 31 7 (207 + 1))) 31 8 (232 + 1))) 31 9 (257 + 1))) 31 10 (282 + 1))) 31 11 (307 + 1))) 31 12 (332 + 1)).2 30 0 = 31 + 1 := by
      (repeat (first | refine Eq.trans (gR_a (by omega)) ?_ | refine Eq.trans (gi_2 (by omega)) ?_ | refine Eq.trans (gR_k (by omega)) ?_ | refine Eq.trans (zu0_ne2 (by omega)) ?_ | refine Eq.trans (gI_2) ?_)) <;> first | exact g0_hit2 | exact gR_hit | rfl
    have z2 := z1.symm.trans z
    omega
  have z1 : (zuR (zini 332 357 (zuR (zini 307 332 (zuR (zini 282 307 (zuR (zini 257 282 (zuR (zini 232 257 (zuR (zini 207 232 (zuR (zini 182 207 (zuR (zini 157 182 (zuR (zini 132 157 (zuR (zini 107 132 (zuR (zini 82 107 (zuR (zini 57 82 (zuR (zini 32 57 (zuR (zu0 (zu0 σ 30) 31) 30 0 (31 + 1))) 31 0 (32 + 1))) 31 1 (57 + 1))) 31 2 (82 + 1))) 31 3 (107 + 1))) 31 4 (132 + 1))) 31 5 (157 + 1))) 31 6 (182 + 1))) 31 7 (207 + 1))) 31 8 (232 + 1))) 31 9 (257 + 1))) 31 10 (282 + 1))) 31 11 (307 + 1))) 31 12 (332 + 1)).2 30 0 = 31 + 1 := by
    (repeat (first | refine Eq.trans (gR_a (by omega)) ?_ | refine Eq.trans (gi_2 (by omega)) ?_ | refine Eq.trans (gR_k (by omega)) ?_ | refine Eq.trans (zu0_ne2 (by omega)) ?_ | refine Eq.trans (gI_2) ?_)) <;> first | exact g0_hit2 | exact gR_hit | rfl
  obtain rfl : q = 31 := by
    have z2 := hq.symm.trans z1
    omega
  clear hq z1
  rw [show zlay 31 = (23, 13) from rfl]
  refine And.intro (fun _ => ?_) (fun z => absurd (by decide) z)
  exact And.intro rfl (And.intro rfl ⟨rfl, m_X1 σ⟩)
