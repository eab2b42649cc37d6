/-! the constructors: WindowRing, WindowRingModel -/
theorem zgetD_none {α : Type} {l : List α} {n : Nat} {d : α} (h : l.length ≤ n) : l.getD n d = d := by
  rw [List.getD_eq_getElem?_getD, List.getElem?_eq_none h]
  rfl
def zk1 (a k : Nat) : Bool := match zfk (zlay a).1 k with | (kd, _, _, off) => !(Nat.beq kd 1) || (Nat.beq (iR a k) (a + off + 1) && Nat.blt (a + off) (if a < 468 then 468 else 501))
theorem zk1_all : ((List.range 501).all fun a => (List.range (zfkL.getD (zlay a).1 []).length).all fun k => zk1 a k) = true := by decide +kernel
theorem zk1_at {a k : Nat} (ha : a < 501) (h : (zfk (zlay a).1 k).1 = 1) : iR a k = a + (zfk (zlay a).1 k).2.2.2 + 1 ∧ a + (zfk (zlay a).1 k).2.2.2 < (if a < 468 then 468 else 501) := by
  have hk : k < (zfkL.getD (zlay a).1 []).length := by
    apply Nat.lt_of_not_le
    intro z
    unfold zfk at h
    rw [zgetD_none z] at h
    cases h
  have h1 := List.all_eq_true.mp (List.all_eq_true.mp zk1_all a (List.mem_range.mpr ha)) k (List.mem_range.mpr hk)
  unfold zk1 at h1
  generalize zfk (zlay a).1 k = q at h h1 ⊢
  obtain ⟨kd, x, y, off⟩ := q
  have hkd : kd = 1 := h
  subst hkd
  have h2 : (Nat.beq (iR a k) (a + off + 1) && Nat.blt (a + off) (if a < 468 then 468 else 501)) = true := h1
  rw [Bool.and_eq_true] at h2
  exact ⟨Nat.eq_of_beq_eq_true h2.1, Nat.le_of_ble_eq_true h2.2⟩
set_option maxRecDepth 100000 in
set_option maxHeartbeats 2000000 in
theorem m_X8 (σ : zS) : (zuR (zini 462 468 (zuR (zini 456 462 (zuR (zini 450 456 (zuR (zini 444 450 (zuR (zini 419 444 (zuR (zini 394 419 (zuR (zu0 (zuR (zu0 (zuR (zu0 (zuR (zu0 (zuR (zini 384 390 (zuR (zini 359 384 (zuR (zu0 (zuR (zu0 (zuR (zini 30 357 (zuR (zini 23 30 (zuR (zini 16 23 (zuI (zuI (zuR (zini 2 16 (zuI (zuR (zu0 (zu0 σ 0) 1) 0 0 2) 0 1 0)) 0 2 3) 0 3 0) 0 4 (-1))) 0 5 17)) 0 6 24)) 0 7 31) 357) 0 8 358) 358) 0 9 359)) 0 10 360)) 0 11 385) 390) 0 12 391) 391) 0 13 392) 392) 0 14 393) 393) 0 15 394)) 357 0 395)) 357 1 420)) 390 0 445)) 390 1 451)) 390 2 457)) 390 3 463) = zini 0 468 σ := by
  refine zrs.done (((((((((((((((((((((((((((((((((((((((((((zrs.start (S := (fun a => Nat.beq a 0 || Nat.beq a 357 || Nat.beq a 390)) (o := 0) (σ := σ)).spec (by decide) (Nat.le_refl _)).arr (by omega) (show zlay 1 = (20, 1000) from rfl) (Or.inl rfl)).uR (by decide)).uI (by decide)).ini (by omega) (by omega)).uR (by decide)).uI (by decide)).uI (by decide)).ini (by omega) (by omega)).uR (by decide)).ini (by omega) (by omega)).uR (by decide)).ini (by omega) (by omega)).uR (by decide)).spec (by decide) (by omega)).uR (by decide)).arr (by omega) (show zlay 358 = (22, 2) from rfl) (Or.inr rfl)).uR (by decide)).ini (by omega) (by omega)).uR (by decide)).ini (by omega) (by omega)).uR (by decide)).spec (by decide) (by omega)).uR (by decide)).arr (by omega) (show zlay 391 = (20, 4) from rfl) (Or.inl rfl)).uR (by decide)).arr (by omega) (show zlay 392 = (20, 13) from rfl) (Or.inl rfl)).uR (by decide)).arr (by omega) (show zlay 393 = (20, 13) from rfl) (Or.inl rfl)).uR (by decide)).ini (by omega) (by omega)).uR (by decide)).ini (by omega) (by omega)).uR (by decide)).ini (by omega) (by omega)).uR (by decide)).ini (by omega) (by omega)).uR (by decide)).ini (by omega) (by omega)).uR (by decide)).ini (by omega) (by omega)).uR (by decide)) (fun a ha => ?_)
  rcases (by simpa using ha : (a = 0 ∨ a = 357) ∨ a = 390) with (ea | ea) | ea
  · rw [ea]
    refine ⟨by omega, fun j => ⟨?_, ?_⟩⟩
    · unfold iI
      rw [show zlay 0 = (8, 16) from rfl]
      match j with
      | 0 => (repeat (first | refine Eq.trans (gR_1) ?_ | refine Eq.trans (gI_k (by omega)) ?_ | refine Eq.trans (gI_a (by omega)) ?_ | refine Eq.trans (zu0_ne1 (by omega)) ?_ | refine Eq.trans (gi_1 (by omega)) ?_)) <;> first | exact g0_hit1 | exact gI_hit | rfl
      | 1 => (repeat (first | refine Eq.trans (gR_1) ?_ | refine Eq.trans (gI_k (by omega)) ?_ | refine Eq.trans (gI_a (by omega)) ?_ | refine Eq.trans (zu0_ne1 (by omega)) ?_ | refine Eq.trans (gi_1 (by omega)) ?_)) <;> first | exact g0_hit1 | exact gI_hit | rfl
      | 2 => (repeat (first | refine Eq.trans (gR_1) ?_ | refine Eq.trans (gI_k (by omega)) ?_ | refine Eq.trans (gI_a (by omega)) ?_ | refine Eq.trans (zu0_ne1 (by omega)) ?_ | refine Eq.trans (gi_1 (by omega)) ?_)) <;> first | exact g0_hit1 | exact gI_hit | rfl
      | 3 => (repeat (first | refine Eq.trans (gR_1) ?_ | refine Eq.trans (gI_k (by omega)) ?_ | refine Eq.trans (gI_a (by omega)) ?_ | refine Eq.trans (zu0_ne1 (by omega)) ?_ | refine Eq.trans (gi_1 (by omega)) ?_)) <;> first | exact g0_hit1 | exact gI_hit | rfl
      | 4 => (repeat (first | refine Eq.trans (gR_1) ?_ | refine Eq.trans (gI_k (by omega)) ?_ | refine Eq.trans (gI_a (by omega)) ?_ | refine Eq.trans (zu0_ne1 (by omega)) ?_ | refine Eq.trans (gi_1 (by omega)) ?_)) <;> first | exact g0_hit1 | exact gI_hit | rfl
      | 5 => (repeat (first | refine Eq.trans (gR_1) ?_ | refine Eq.trans (gI_k (by omega)) ?_ | refine Eq.trans (gI_a (by omega)) ?_ | refine Eq.trans (zu0_ne1 (by omega)) ?_ | refine Eq.trans (gi_1 (by omega)) ?_)) <;> first | exact g0_hit1 | exact gI_hit | rfl
      | 6 => (repeat (first | refine Eq.trans (gR_1) ?_ | refine Eq.trans (gI_k (by omega)) ?_ | refine Eq.trans (gI_a (by omega)) ?_ | refine Eq.trans (zu0_ne1 (by omega)) ?_ | refine Eq.trans (gi_1 (by omega)) ?_)) <;> first | exact g0_hit1 | exact gI_hit | rfl
      | 7 => (repeat (first | refine Eq.trans (gR_1) ?_ | refine Eq.trans (gI_k (by omega)) ?_ | refine Eq.trans (gI_a (by omega)) ?_ | refine Eq.trans (zu0_ne1 (by omega)) ?_ | refine Eq.trans (gi_1 (by omega)) ?_)) <;> first | exact g0_hit1 | exact gI_hit | rfl
      | 8 => (repeat (first | refine Eq.trans (gR_1) ?_ | refine Eq.trans (gI_k (by omega)) ?_ | refine Eq.trans (gI_a (by omega)) ?_ | refine Eq.trans (zu0_ne1 (by omega)) ?_ | refine Eq.trans (gi_1 (by omega)) ?_)) <;> first | exact g0_hit1 | exact gI_hit | rfl
      | 9 => (repeat (first | refine Eq.trans (gR_1) ?_ | refine Eq.trans (gI_k (by omega)) ?_ | refine Eq.trans (gI_a (by omega)) ?_ | refine Eq.trans (zu0_ne1 (by omega)) ?_ | refine Eq.trans (gi_1 (by omega)) ?_)) <;> first | exact g0_hit1 | exact gI_hit | rfl
      | 10 => (repeat (first | refine Eq.trans (gR_1) ?_ | refine Eq.trans (gI_k (by omega)) ?_ | refine Eq.trans (gI_a (by omega)) ?_ | refine Eq.trans (zu0_ne1 (by omega)) ?_ | refine Eq.trans (gi_1 (by omega)) ?_)) <;> first | exact g0_hit1 | exact gI_hit | rfl
      | 11 => (repeat (first | refine Eq.trans (gR_1) ?_ | refine Eq.trans (gI_k (by omega)) ?_ | refine Eq.trans (gI_a (by omega)) ?_ | refine Eq.trans (zu0_ne1 (by omega)) ?_ | refine Eq.trans (gi_1 (by omega)) ?_)) <;> first | exact g0_hit1 | exact gI_hit | rfl
      | 12 => (repeat (first | refine Eq.trans (gR_1) ?_ | refine Eq.trans (gI_k (by omega)) ?_ | refine Eq.trans (gI_a (by omega)) ?_ | refine Eq.trans (zu0_ne1 (by omega)) ?_ | refine Eq.trans (gi_1 (by omega)) ?_)) <;> first | exact g0_hit1 | exact gI_hit | rfl
      | 13 => (repeat (first | refine Eq.trans (gR_1) ?_ | refine Eq.trans (gI_k (by omega)) ?_ | refine Eq.trans (gI_a (by omega)) ?_ | refine Eq.trans (zu0_ne1 (by omega)) ?_ | refine Eq.trans (gi_1 (by omega)) ?_)) <;> first | exact g0_hit1 | exact gI_hit | rfl
      | 14 => (repeat (first | refine Eq.trans (gR_1) ?_ | refine Eq.trans (gI_k (by omega)) ?_ | refine Eq.trans (gI_a (by omega)) ?_ | refine Eq.trans (zu0_ne1 (by omega)) ?_ | refine Eq.trans (gi_1 (by omega)) ?_)) <;> first | exact g0_hit1 | exact gI_hit | rfl
      | 15 => (repeat (first | refine Eq.trans (gR_1) ?_ | refine Eq.trans (gI_k (by omega)) ?_ | refine Eq.trans (gI_a (by omega)) ?_ | refine Eq.trans (zu0_ne1 (by omega)) ?_ | refine Eq.trans (gi_1 (by omega)) ?_)) <;> first | exact g0_hit1 | exact gI_hit | rfl
      | j + 16 => (repeat (first | refine Eq.trans (gR_1) ?_ | refine Eq.trans (gI_k (by omega)) ?_ | refine Eq.trans (gI_a (by omega)) ?_ | refine Eq.trans (zu0_ne1 (by omega)) ?_ | refine Eq.trans (gi_1 (by omega)) ?_)) <;> first | exact g0_hit1 | exact gI_hit | rfl
    · rw [iR_c (show zlay 0 = (8, 16) from rfl) (by decide)]
      match j with
      | 0 => (repeat (first | refine Eq.trans (gR_a (by omega)) ?_ | refine Eq.trans (gi_2 (by omega)) ?_ | refine Eq.trans (gR_k (by omega)) ?_ | refine Eq.trans (zu0_ne2 (by omega)) ?_ | refine Eq.trans (gI_2) ?_)) <;> first | exact g0_hit2 | exact gR_hit | rfl
      | 1 => (repeat (first | refine Eq.trans (gR_a (by omega)) ?_ | refine Eq.trans (gi_2 (by omega)) ?_ | refine Eq.trans (gR_k (by omega)) ?_ | refine Eq.trans (zu0_ne2 (by omega)) ?_ | refine Eq.trans (gI_2) ?_)) <;> first | exact g0_hit2 | exact gR_hit | rfl
      | 2 => (repeat (first | refine Eq.trans (gR_a (by omega)) ?_ | refine Eq.trans (gi_2 (by omega)) ?_ | refine Eq.trans (gR_k (by omega)) ?_ | refine Eq.trans (zu0_ne2 (by omega)) ?_ | refine Eq.trans (gI_2) ?_)) <;> first | exact g0_hit2 | exact gR_hit | rfl
      | 3 => (repeat (first | refine Eq.trans (gR_a (by omega)) ?_ | refine Eq.trans (gi_2 (by omega)) ?_ | refine Eq.trans (gR_k (by omega)) ?_ | refine Eq.trans (zu0_ne2 (by omega)) ?_ | refine Eq.trans (gI_2) ?_)) <;> first | exact g0_hit2 | exact gR_hit | rfl
      | 4 => (repeat (first | refine Eq.trans (gR_a (by omega)) ?_ | refine Eq.trans (gi_2 (by omega)) ?_ | refine Eq.trans (gR_k (by omega)) ?_ | refine Eq.trans (zu0_ne2 (by omega)) ?_ | refine Eq.trans (gI_2) ?_)) <;> first | exact g0_hit2 | exact gR_hit | rfl
      | 5 => (repeat (first | refine Eq.trans (gR_a (by omega)) ?_ | refine Eq.trans (gi_2 (by omega)) ?_ | refine Eq.trans (gR_k (by omega)) ?_ | refine Eq.trans (zu0_ne2 (by omega)) ?_ | refine Eq.trans (gI_2) ?_)) <;> first | exact g0_hit2 | exact gR_hit | rfl
      | 6 => (repeat (first | refine Eq.trans (gR_a (by omega)) ?_ | refine Eq.trans (gi_2 (by omega)) ?_ | refine Eq.trans (gR_k (by omega)) ?_ | refine Eq.trans (zu0_ne2 (by omega)) ?_ | refine Eq.trans (gI_2) ?_)) <;> first | exact g0_hit2 | exact gR_hit | rfl
      | 7 => (repeat (first | refine Eq.trans (gR_a (by omega)) ?_ | refine Eq.trans (gi_2 (by omega)) ?_ | refine Eq.trans (gR_k (by omega)) ?_ | refine Eq.trans (zu0_ne2 (by omega)) ?_ | refine Eq.trans (gI_2) ?_)) <;> first | exact g0_hit2 | exact gR_hit | rfl
      | 8 => (repeat (first | refine Eq.trans (gR_a (by omega)) ?_ | refine Eq.trans (gi_2 (by omega)) ?_ | refine Eq.trans (gR_k (by omega)) ?_ | refine Eq.trans (zu0_ne2 (by omega)) ?_ | refine Eq.trans (gI_2) ?_)) <;> first | exact g0_hit2 | exact gR_hit | rfl
      | 9 => (repeat (first | refine Eq.trans (gR_a (by omega)) ?_ | refine Eq.trans (gi_2 (by omega)) ?_ | refine Eq.trans (gR_k (by omega)) ?_ | refine Eq.trans (zu0_ne2 (by omega)) ?_ | refine Eq.trans (gI_2) ?_)) <;> first | exact g0_hit2 | exact gR_hit | rfl
      | 10 => (repeat (first | refine Eq.trans (gR_a (by omega)) ?_ | refine Eq.trans (gi_2 (by omega)) ?_ | refine Eq.trans (gR_k (by omega)) ?_ | refine Eq.trans (zu0_ne2 (by omega)) ?_ | refine Eq.trans (gI_2) ?_)) <;> first | exact g0_hit2 | exact gR_hit | rfl
      | 11 => (repeat (first | refine Eq.trans (gR_a (by omega)) ?_ | refine Eq.trans (gi_2 (by omega)) ?_ | refine Eq.trans (gR_k (by omega)) ?_ | refine Eq.trans (zu0_ne2 (by omega)) ?_ | refine Eq.trans (gI_2) ?_)) <;> first | exact g0_hit2 | exact gR_hit | rfl
      | 12 => (repeat (first | refine Eq.trans (gR_a (by omega)) ?_ | refine Eq.trans (gi_2 (by omega)) ?_ | refine Eq.trans (gR_k (by omega)) ?_ | refine Eq.trans (zu0_ne2 (by omega)) ?_ | refine Eq.trans (gI_2) ?_)) <;> first | exact g0_hit2 | exact gR_hit | rfl
      | 13 => (repeat (first | refine Eq.trans (gR_a (by omega)) ?_ | refine Eq.trans (gi_2 (by omega)) ?_ | refine Eq.trans (gR_k (by omega)) ?_ | refine Eq.trans (zu0_ne2 (by omega)) ?_ | refine Eq.trans (gI_2) ?_)) <;> first | exact g0_hit2 | exact gR_hit | rfl
      | 14 => (repeat (first | refine Eq.trans (gR_a (by omega)) ?_ | refine Eq.trans (gi_2 (by omega)) ?_ | refine Eq.trans (gR_k (by omega)) ?_ | refine Eq.trans (zu0_ne2 (by omega)) ?_ | refine Eq.trans (gI_2) ?_)) <;> first | exact g0_hit2 | exact gR_hit | rfl
      | 15 => (repeat (first | refine Eq.trans (gR_a (by omega)) ?_ | refine Eq.trans (gi_2 (by omega)) ?_ | refine Eq.trans (gR_k (by omega)) ?_ | refine Eq.trans (zu0_ne2 (by omega)) ?_ | refine Eq.trans (gI_2) ?_)) <;> first | exact g0_hit2 | exact gR_hit | rfl
      | j + 16 => (repeat (first | refine Eq.trans (gR_a (by omega)) ?_ | refine Eq.trans (gi_2 (by omega)) ?_ | refine Eq.trans (gR_k (by omega)) ?_ | refine Eq.trans (zu0_ne2 (by omega)) ?_ | refine Eq.trans (gI_2) ?_)) <;> first | exact g0_hit2 | exact gR_hit | rfl
  · rw [ea]
    refine ⟨by omega, fun j => ⟨?_, ?_⟩⟩
    · rw [iI_z (show zlay 357 = (23, 2) from rfl) (by decide)]
      (repeat (first | refine Eq.trans (gR_1) ?_ | refine Eq.trans (gI_k (by omega)) ?_ | refine Eq.trans (gI_a (by omega)) ?_ | refine Eq.trans (zu0_ne1 (by omega)) ?_ | refine Eq.trans (gi_1 (by omega)) ?_)) <;> first | exact g0_hit1 | exact gI_hit | rfl
    · rw [iR_23 (show zlay 357 = (23, 2) from rfl)]
      match j with
      | 0 => (repeat (first | refine Eq.trans (gR_a (by omega)) ?_ | refine Eq.trans (gi_2 (by omega)) ?_ | refine Eq.trans (gR_k (by omega)) ?_ | refine Eq.trans (zu0_ne2 (by omega)) ?_ | refine Eq.trans (gI_2) ?_)) <;> first | exact g0_hit2 | exact gR_hit | rfl
      | 1 => (repeat (first | refine Eq.trans (gR_a (by omega)) ?_ | refine Eq.trans (gi_2 (by omega)) ?_ | refine Eq.trans (gR_k (by omega)) ?_ | refine Eq.trans (zu0_ne2 (by omega)) ?_ | refine Eq.trans (gI_2) ?_)) <;> first | exact g0_hit2 | exact gR_hit | rfl
      | j + 2 => rw [if_neg (by omega), if_neg (by omega)]; (repeat (first | refine Eq.trans (gR_a (by omega)) ?_ | refine Eq.trans (gi_2 (by omega)) ?_ | refine Eq.trans (gR_k (by omega)) ?_ | refine Eq.trans (zu0_ne2 (by omega)) ?_ | refine Eq.trans (gI_2) ?_)) <;> first | exact g0_hit2 | exact gR_hit | rfl
  · rw [ea]
    refine ⟨by omega, fun j => ⟨?_, ?_⟩⟩
    · rw [iI_z (show zlay 390 = (25, 4) from rfl) (by decide)]
      (repeat (first | refine Eq.trans (gR_1) ?_ | refine Eq.trans (gI_k (by omega)) ?_ | refine Eq.trans (gI_a (by omega)) ?_ | refine Eq.trans (zu0_ne1 (by omega)) ?_ | refine Eq.trans (gi_1 (by omega)) ?_)) <;> first | exact g0_hit1 | exact gI_hit | rfl
    · rw [iR_25 (show zlay 390 = (25, 4) from rfl)]
      match j with
      | 0 => (repeat (first | refine Eq.trans (gR_a (by omega)) ?_ | refine Eq.trans (gi_2 (by omega)) ?_ | refine Eq.trans (gR_k (by omega)) ?_ | refine Eq.trans (zu0_ne2 (by omega)) ?_ | refine Eq.trans (gI_2) ?_)) <;> first | exact g0_hit2 | exact gR_hit | rfl
      | 1 => (repeat (first | refine Eq.trans (gR_a (by omega)) ?_ | refine Eq.trans (gi_2 (by omega)) ?_ | refine Eq.trans (gR_k (by omega)) ?_ | refine Eq.trans (zu0_ne2 (by omega)) ?_ | refine Eq.trans (gI_2) ?_)) <;> first | exact g0_hit2 | exact gR_hit | rfl
      | 2 => (repeat (first | refine Eq.trans (gR_a (by omega)) ?_ | refine Eq.trans (gi_2 (by omega)) ?_ | refine Eq.trans (gR_k (by omega)) ?_ | refine Eq.trans (zu0_ne2 (by omega)) ?_ | refine Eq.trans (gI_2) ?_)) <;> first | exact g0_hit2 | exact gR_hit | rfl
      | 3 => (repeat (first | refine Eq.trans (gR_a (by omega)) ?_ | refine Eq.trans (gi_2 (by omega)) ?_ | refine Eq.trans (gR_k (by omega)) ?_ | refine Eq.trans (zu0_ne2 (by omega)) ?_ | refine Eq.trans (gI_2) ?_)) <;> first | exact g0_hit2 | exact gR_hit | rfl
      | j + 4 => rw [if_neg (by omega)]; (repeat (first | refine Eq.trans (gR_a (by omega)) ?_ | refine Eq.trans (gi_2 (by omega)) ?_ | refine Eq.trans (gR_k (by omega)) ?_ | refine Eq.trans (zu0_ne2 (by omega)) ?_ | refine Eq.trans (gI_2) ?_)) <;> first | exact g0_hit2 | exact gR_hit | rfl
set_option maxRecDepth 100000 in
set_option maxHeartbeats 2000000 in
theorem n_X8 (N : Nat) (σ : zS) (hp : p_X1_startAnew 16 N (zini 0 468 σ)) : zCl 20 zno 1 zall 468 108 [.inr (8, 16, 0)] (zu0 σ 0) (fun v σ1 => v = none ∧ σ1 = s_X1_startAnew 16 N (zini 0 468 σ)) := by
  refine zmeth (cd := kX8_init) [200] 1000 (Nat.le_of_ble_eq_true rfl) rfl okX8_init (by omega) (Nat.le_of_ble_eq_true rfl) ?_
  refine And.intro rfl (And.intro (by decide) (And.intro (by omega) ?_))
  refine And.intro (by omega) (And.intro rfl ?_)
  refine And.intro rfl (And.intro rfl (And.intro (by omega) ?_))
  refine ⟨zno, 16, by omega, zsl_mono (by omega), zCl.use (n_X3 (zuI (zuR (zu0 (zu0 σ 0) 1) 0 0 2) 0 1 0)) (by decide) ?_⟩
  rintro _ σz ⟨rfl, hz0⟩
  subst σz
  refine And.intro (by omega) (And.intro rfl ?_)
  refine And.intro rfl (And.intro rfl (And.intro (by omega) ?_))
  refine ⟨zno, 23, by omega, zsl_mono (by omega), zCl.use (n_X2 16 (zuI (zuI (zuR (zini 2 16 (zuI (zuR (zu0 (zu0 σ 0) 1) 0 0 2) 0 1 0)) 0 2 3) 0 3 0) 0 4 (-1)) (by omega) (by decide +kernel)) (by decide) ?_⟩
  rintro _ σz ⟨rfl, hz0⟩
  subst σz
  refine And.intro (by omega) ?_
  refine And.intro rfl (And.intro rfl (And.intro (by omega) ?_))
  refine ⟨zno, 30, by omega, zsl_mono (by omega), zCl.use (n_X2 23 (zuR (zini 16 23 (zuI (zuI (zuR (zini 2 16 (zuI (zuR (zu0 (zu0 σ 0) 1) 0 0 2) 0 1 0)) 0 2 3) 0 3 0) 0 4 (-1))) 0 5 17) (by omega) (by decide +kernel)) (by decide) ?_⟩
  rintro _ σz ⟨rfl, hz0⟩
  subst σz
  refine And.intro (by omega) ?_
  refine And.intro rfl (And.intro rfl (And.intro (by omega) ?_))
  refine ⟨zno, 357, by omega, zsl_mono (by omega), zCl.use (n_X1 (zuR (zini 23 30 (zuR (zini 16 23 (zuI (zuI (zuR (zini 2 16 (zuI (zuR (zu0 (zu0 σ 0) 1) 0 0 2) 0 1 0)) 0 2 3) 0 3 0) 0 4 (-1))) 0 5 17)) 0 6 24)) (by decide) ?_⟩
  rintro _ σz ⟨rfl, hz0⟩
  subst σz
  refine And.intro (by omega) (And.intro rfl ?_)
  refine And.intro rfl (And.intro (by decide) (And.intro (by omega) ?_))
  refine And.intro (by omega) (And.intro rfl ?_)
  refine And.intro rfl (And.intro (by decide) (And.intro (by omega) ?_))
  refine And.intro (by omega) (And.intro rfl ?_)
  refine And.intro rfl (And.intro rfl (And.intro (by omega) ?_))
  refine ⟨zno, 384, by omega, zsl_mono (by omega), zCl.use (n_X4 359 (zuR (zu0 (zuR (zu0 (zuR (zini 30 357 (zuR (zini 23 30 (zuR (zini 16 23 (zuI (zuI (zuR (zini 2 16 (zuI (zuR (zu0 (zu0 σ 0) 1) 0 0 2) 0 1 0)) 0 2 3) 0 3 0) 0 4 (-1))) 0 5 17)) 0 6 24)) 0 7 31) 357) 0 8 358) 358) 0 9 359) (by omega) (by decide +kernel)) (by decide) ?_⟩
  rintro _ σz ⟨rfl, hz0⟩
  subst σz
  refine And.intro (by omega) (And.intro rfl ?_)
  refine And.intro rfl (And.intro rfl (And.intro (by omega) ?_))
  refine ⟨zno, 390, by omega, zsl_mono (by omega), zCl.use (n_X7 384 (zuR (zini 359 384 (zuR (zu0 (zuR (zu0 (zuR (zini 30 357 (zuR (zini 23 30 (zuR (zini 16 23 (zuI (zuI (zuR (zini 2 16 (zuI (zuR (zu0 (zu0 σ 0) 1) 0 0 2) 0 1 0)) 0 2 3) 0 3 0) 0 4 (-1))) 0 5 17)) 0 6 24)) 0 7 31) 357) 0 8 358) 358) 0 9 359)) 0 10 360) (by omega) (by decide +kernel)) (by decide) ?_⟩
  rintro _ σz ⟨rfl, hz0⟩
  subst σz
  refine And.intro (by omega) (And.intro rfl ?_)
  refine And.intro rfl (And.intro (by decide) (And.intro (by omega) ?_))
  refine And.intro (by omega) (And.intro rfl ?_)
  refine And.intro rfl (And.intro (by decide) (And.intro (by omega) ?_))
  refine And.intro (by omega) (And.intro rfl ?_)
  refine And.intro rfl (And.intro (by decide) (And.intro (by omega) ?_))
  refine And.intro (by omega) (And.intro rfl ?_)
  refine And.intro rfl (And.intro (by decide) (And.intro (by omega) ?_))
  refine And.intro (by omega) (And.intro rfl ?_)
  refine And.intro ?_ (fun q hq => ?_)
  · intro z
    have z1 : (zuR (zu0 (zuR (zu0 (zuR (zu0 (zuR (zu0 (zuR (zini 384 390 (zuR (zini 359 384 (zuR (zu0 (zuR (zu0 (zuR (zini 30 357 (zuR (zini 23 30 (zuR (zini 16 23 (zuI (zuI (zuR (zini 2 16 (zuI (zuR (zu0 (zu0 σ 0) 1) 0 0 2) 0 1 0)) 0 2 3) 0 3 0) 0 4 (-1))) 0 5 17)) 0 6 24)) 0 7 31) 357) 0 8 358) 358) 0 9 359)) 0 10 360)) 0 11 385) 390) 0 12 391) 391) 0 13 392) 392) 0 14 393) 393) 0 15 394).2 0 8 = 358 := by
      (repeat (first | refine Eq.trans (gR_a (by omega)) ?_ | refine Eq.trans (gi_2 (by omega)) ?_ | refine Eq.trans (gR_k (by omega)) ?_ | refine Eq.trans (zu0_ne2 (by omega)) ?_ | refine Eq.trans (gI_2) ?_)) <;> first | exact g0_hit2 | exact gR_hit | rfl
    have z2 := z1.symm.trans z
    omega
  have z1 : (zuR (zu0 (zuR (zu0 (zuR (zu0 (zuR (zu0 (zuR (zini 384 390 (zuR (zini 359 384 (zuR (zu0 (zuR (zu0 (zuR (zini 30 357 (zuR (zini 23 30 (zuR (zini 16 23 (zuI (zuI (zuR (zini 2 16 (zuI (zuR (zu0 (zu0 σ 0) 1) 0 0 2) 0 1 0)) 0 2 3) 0 3 0) 0 4 (-1))) 0 5 17)) 0 6 24)) 0 7 31) 357) 0 8 358) 358) 0 9 359)) 0 10 360)) 0 11 385) 390) 0 12 391) 391) 0 13 392) 392) 0 14 393) 393) 0 15 394).2 0 8 = 358 := by
    (repeat (first | refine Eq.trans (gR_a (by omega)) ?_ | refine Eq.trans (gi_2 (by omega)) ?_ | refine Eq.trans (gR_k (by omega)) ?_ | refine Eq.trans (zu0_ne2 (by omega)) ?_ | refine Eq.trans (gI_2) ?_)) <;> first | exact g0_hit2 | exact gR_hit | rfl
  obtain rfl : q = 357 := by
    have z2 := hq.symm.trans z1
    omega
  clear hq z1
  rw [show zlay 357 = (23, 2) from rfl]
  refine And.intro (fun z => absurd z (by decide)) (fun _ => ?_)
  refine And.intro ?_ (fun q hq => ?_)
  · intro z
    have z1 : (zuR (zu0 (zuR (zu0 (zuR (zu0 (zuR (zu0 (zuR (zini 384 390 (zuR (zini 359 384 (zuR (zu0 (zuR (zu0 (zuR (zini 30 357 (zuR (zini 23 30 (zuR (zini 16 23 (zuI (zuI (zuR (zini 2 16 (zuI (zuR (zu0 (zu0 σ 0) 1) 0 0 2) 0 1 0)) 0 2 3) 0 3 0) 0 4 (-1))) 0 5 17)) 0 6 24)) 0 7 31) 357) 0 8 358) 358) 0 9 359)) 0 10 360)) 0 11 385) 390) 0 12 391) 391) 0 13 392) 392) 0 14 393) 393) 0 15 394).2 0 8 = 358 := by
      (repeat (first | refine Eq.trans (gR_a (by omega)) ?_ | refine Eq.trans (gi_2 (by omega)) ?_ | refine Eq.trans (gR_k (by omega)) ?_ | refine Eq.trans (zu0_ne2 (by omega)) ?_ | refine Eq.trans (gI_2) ?_)) <;> first | exact g0_hit2 | exact gR_hit | rfl
    have z2 := z1.symm.trans z
    omega
  have z1 : (zuR (zu0 (zuR (zu0 (zuR (zu0 (zuR (zu0 (zuR (zini 384 390 (zuR (zini 359 384 (zuR (zu0 (zuR (zu0 (zuR (zini 30 357 (zuR (zini 23 30 (zuR (zini 16 23 (zuI (zuI (zuR (zini 2 16 (zuI (zuR (zu0 (zu0 σ 0) 1) 0 0 2) 0 1 0)) 0 2 3) 0 3 0) 0 4 (-1))) 0 5 17)) 0 6 24)) 0 7 31) 357) 0 8 358) 358) 0 9 359)) 0 10 360)) 0 11 385) 390) 0 12 391) 391) 0 13 392) 392) 0 14 393) 393) 0 15 394).2 0 8 = 358 := by
    (repeat (first | refine Eq.trans (gR_a (by omega)) ?_ | refine Eq.trans (gi_2 (by omega)) ?_ | refine Eq.trans (gR_k (by omega)) ?_ | refine Eq.trans (zu0_ne2 (by omega)) ?_ | refine Eq.trans (gI_2) ?_)) <;> first | exact g0_hit2 | exact gR_hit | rfl
  obtain rfl : q = 357 := by
    have z2 := hq.symm.trans z1
    omega
  clear hq z1
  rw [show zlay 357 = (23, 2) from rfl]
  refine And.intro rfl (And.intro rfl (And.intro (by omega) ?_))
  refine ⟨zno, 419, by omega, zsl_mono (by omega), zCl.use (n_X4 394 (zuR (zu0 (zuR (zu0 (zuR (zu0 (zuR (zu0 (zuR (zini 384 390 (zuR (zini 359 384 (zuR (zu0 (zuR (zu0 (zuR (zini 30 357 (zuR (zini 23 30 (zuR (zini 16 23 (zuI (zuI (zuR (zini 2 16 (zuI (zuR (zu0 (zu0 σ 0) 1) 0 0 2) 0 1 0)) 0 2 3) 0 3 0) 0 4 (-1))) 0 5 17)) 0 6 24)) 0 7 31) 357) 0 8 358) 358) 0 9 359)) 0 10 360)) 0 11 385) 390) 0 12 391) 391) 0 13 392) 392) 0 14 393) 393) 0 15 394) (by omega) (by decide +kernel)) (by decide) ?_⟩
  rintro _ σz ⟨rfl, hz0⟩
  subst σz
  refine And.intro (vp_in_iff.mpr (by decide)) ?_
  refine And.intro ?_ (fun q hq => ?_)
  · intro z
    have z1 : (zuR (zini 394 419 (zuR (zu0 (zuR (zu0 (zuR (zu0 (zuR (zu0 (zuR (zini 384 390 (zuR (zini 359 384 (zuR (zu0 (zuR (zu0 (zuR (zini 30 357 (zuR (zini 23 30 (zuR (zini 16 23 (zuI (zuI (zuR (zini 2 16 (zuI (zuR (zu0 (zu0 σ 0) 1) 0 0 2) 0 1 0)) 0 2 3) 0 3 0) 0 4 (-1))) 0 5 17)) 0 6 24)) 0 7 31) 357) 0 8 358) 358) 0 9 359)) 0 10 360)) 0 11 385) 390) 0 12 391) 391) 0 13 392) 392) 0 14 393) 393) 0 15 394)) 357 0 395).2 0 8 = 358 := by
      (repeat (first | refine Eq.trans (gR_a (by omega)) ?_ | refine Eq.trans (gi_2 (by omega)) ?_ | refine Eq.trans (gR_k (by omega)) ?_ | refine Eq.trans (zu0_ne2 (by omega)) ?_ | refine Eq.trans (gI_2) ?_)) <;> first | exact g0_hit2 | exact gR_hit | rfl
    have z2 := z1.symm.trans z
    omega
  have z1 : (zuR (zini 394 419 (zuR (zu0 (zuR (zu0 (zuR (zu0 (zuR (zu0 (zuR (zini 384 390 (zuR (zini 359 384 (zuR (zu0 (zuR (zu0 (zuR (zini 30 357 (zuR (zini 23 30 (zuR (zini 16 23 (zuI (zuI (zuR (zini 2 16 (zuI (zuR (zu0 (zu0 σ 0) 1) 0 0 2) 0 1 0)) 0 2 3) 0 3 0) 0 4 (-1))) 0 5 17)) 0 6 24)) 0 7 31) 357) 0 8 358) 358) 0 9 359)) 0 10 360)) 0 11 385) 390) 0 12 391) 391) 0 13 392) 392) 0 14 393) 393) 0 15 394)) 357 0 395).2 0 8 = 358 := by
    (repeat (first | refine Eq.trans (gR_a (by omega)) ?_ | refine Eq.trans (gi_2 (by omega)) ?_ | refine Eq.trans (gR_k (by omega)) ?_ | refine Eq.trans (zu0_ne2 (by omega)) ?_ | refine Eq.trans (gI_2) ?_)) <;> first | exact g0_hit2 | exact gR_hit | rfl
  obtain rfl : q = 357 := by
    have z2 := hq.symm.trans z1
    omega
  clear hq z1
  rw [show zlay 357 = (23, 2) from rfl]
  refine And.intro (fun z => absurd z (by decide)) (fun _ => ?_)
  refine And.intro ?_ (fun q hq => ?_)
  · intro z
    have z1 : (zuR (zini 394 419 (zuR (zu0 (zuR (zu0 (zuR (zu0 (zuR (zu0 (zuR (zini 384 390 (zuR (zini 359 384 (zuR (zu0 (zuR (zu0 (zuR (zini 30 357 (zuR (zini 23 30 (zuR (zini 16 23 (zuI (zuI (zuR (zini 2 16 (zuI (zuR (zu0 (zu0 σ 0) 1) 0 0 2) 0 1 0)) 0 2 3) 0 3 0) 0 4 (-1))) 0 5 17)) 0 6 24)) 0 7 31) 357) 0 8 358) 358) 0 9 359)) 0 10 360)) 0 11 385) 390) 0 12 391) 391) 0 13 392) 392) 0 14 393) 393) 0 15 394)) 357 0 395).2 0 8 = 358 := by
      (repeat (first | refine Eq.trans (gR_a (by omega)) ?_ | refine Eq.trans (gi_2 (by omega)) ?_ | refine Eq.trans (gR_k (by omega)) ?_ | refine Eq.trans (zu0_ne2 (by omega)) ?_ | refine Eq.trans (gI_2) ?_)) <;> first | exact g0_hit2 | exact gR_hit | rfl
    have z2 := z1.symm.trans z
    omega
  have z1 : (zuR (zini 394 419 (zuR (zu0 (zuR (zu0 (zuR (zu0 (zuR (zu0 (zuR (zini 384 390 (zuR (zini 359 384 (zuR (zu0 (zuR (zu0 (zuR (zini 30 357 (zuR (zini 23 30 (zuR (zini 16 23 (zuI (zuI (zuR (zini 2 16 (zuI (zuR (zu0 (zu0 σ 0) 1) 0 0 2) 0 1 0)) 0 2 3) 0 3 0) 0 4 (-1))) 0 5 17)) 0 6 24)) 0 7 31) 357) 0 8 358) 358) 0 9 359)) 0 10 360)) 0 11 385) 390) 0 12 391) 391) 0 13 392) 392) 0 14 393) 393) 0 15 394)) 357 0 395).2 0 8 = 358 := by
    (repeat (first | refine Eq.trans (gR_a (by omega)) ?_ | refine Eq.trans (gi_2 (by omega)) ?_ | refine Eq.trans (gR_k (by omega)) ?_ | refine Eq.trans (zu0_ne2 (by omega)) ?_ | refine Eq.trans (gI_2) ?_)) <;> first | exact g0_hit2 | exact gR_hit | rfl
  obtain rfl : q = 357 := by
    have z2 := hq.symm.trans z1
    omega
  clear hq z1
  rw [show zlay 357 = (23, 2) from rfl]
  refine And.intro rfl (And.intro rfl (And.intro (by omega) ?_))
  refine ⟨zno, 444, by omega, zsl_mono (by omega), zCl.use (n_X4 419 (zuR (zini 394 419 (zuR (zu0 (zuR (zu0 (zuR (zu0 (zuR (zu0 (zuR (zini 384 390 (zuR (zini 359 384 (zuR (zu0 (zuR (zu0 (zuR (zini 30 357 (zuR (zini 23 30 (zuR (zini 16 23 (zuI (zuI (zuR (zini 2 16 (zuI (zuR (zu0 (zu0 σ 0) 1) 0 0 2) 0 1 0)) 0 2 3) 0 3 0) 0 4 (-1))) 0 5 17)) 0 6 24)) 0 7 31) 357) 0 8 358) 358) 0 9 359)) 0 10 360)) 0 11 385) 390) 0 12 391) 391) 0 13 392) 392) 0 14 393) 393) 0 15 394)) 357 0 395) (by omega) (by decide +kernel)) (by decide) ?_⟩
  rintro _ σz ⟨rfl, hz0⟩
  subst σz
  refine And.intro (vp_in_iff.mpr (by decide)) ?_
  refine And.intro ?_ (fun q hq => ?_)
  · intro z
    have z1 : (zuR (zini 419 444 (zuR (zini 394 419 (zuR (zu0 (zuR (zu0 (zuR (zu0 (zuR (zu0 (zuR (zini 384 390 (zuR (zini 359 384 (zuR (zu0 (zuR (zu0 (zuR (zini 30 357 (zuR (zini 23 30 (zuR (zini 16 23 (zuI (zuI (zuR (zini 2 16 (zuI (zuR (zu0 (zu0 σ 0) 1) 0 0 2) 0 1 0)) 0 2 3) 0 3 0) 0 4 (-1))) 0 5 17)) 0 6 24)) 0 7 31) 357) 0 8 358) 358) 0 9 359)) 0 10 360)) 0 11 385) 390) 0 12 391) 391) 0 13 392) 392) 0 14 393) 393) 0 15 394)) 357 0 395)) 357 1 420).2 0 8 = 358 := by
      (repeat (first | refine Eq.trans (gR_a (by omega)) ?_ | refine Eq.trans (gi_2 (by omega)) ?_ | refine Eq.trans (gR_k (by omega)) ?_ | refine Eq.trans (zu0_ne2 (by omega)) ?_ | refine Eq.trans (gI_2) ?_)) <;> first | exact g0_hit2 | exact gR_hit | rfl
    have z2 := z1.symm.trans z
    omega
  have z1 : (zuR (zini 419 444 (zuR (zini 394 419 (zuR (zu0 (zuR (zu0 (zuR (zu0 (zuR (zu0 (zuR (zini 384 390 (zuR (zini 359 384 (zuR (zu0 (zuR (zu0 (zuR (zini 30 357 (zuR (zini 23 30 (zuR (zini 16 23 (zuI (zuI (zuR (zini 2 16 (zuI (zuR (zu0 (zu0 σ 0) 1) 0 0 2) 0 1 0)) 0 2 3) 0 3 0) 0 4 (-1))) 0 5 17)) 0 6 24)) 0 7 31) 357) 0 8 358) 358) 0 9 359)) 0 10 360)) 0 11 385) 390) 0 12 391) 391) 0 13 392) 392) 0 14 393) 393) 0 15 394)) 357 0 395)) 357 1 420).2 0 8 = 358 := by
    (repeat (first | refine Eq.trans (gR_a (by omega)) ?_ | refine Eq.trans (gi_2 (by omega)) ?_ | refine Eq.trans (gR_k (by omega)) ?_ | refine Eq.trans (zu0_ne2 (by omega)) ?_ | refine Eq.trans (gI_2) ?_)) <;> first | exact g0_hit2 | exact gR_hit | rfl
  obtain rfl : q = 357 := by
    have z2 := hq.symm.trans z1
    omega
  clear hq z1
  rw [show zlay 357 = (23, 2) from rfl]
  refine And.intro (fun _ => ?_) (fun z => absurd (by decide) z)
  refine And.intro ?_ (fun q hq => ?_)
  · intro z
    have z1 : (zuR (zini 419 444 (zuR (zini 394 419 (zuR (zu0 (zuR (zu0 (zuR (zu0 (zuR (zu0 (zuR (zini 384 390 (zuR (zini 359 384 (zuR (zu0 (zuR (zu0 (zuR (zini 30 357 (zuR (zini 23 30 (zuR (zini 16 23 (zuI (zuI (zuR (zini 2 16 (zuI (zuR (zu0 (zu0 σ 0) 1) 0 0 2) 0 1 0)) 0 2 3) 0 3 0) 0 4 (-1))) 0 5 17)) 0 6 24)) 0 7 31) 357) 0 8 358) 358) 0 9 359)) 0 10 360)) 0 11 385) 390) 0 12 391) 391) 0 13 392) 392) 0 14 393) 393) 0 15 394)) 357 0 395)) 357 1 420).2 0 12 = 391 := by
      (repeat (first | refine Eq.trans (gR_a (by omega)) ?_ | refine Eq.trans (gi_2 (by omega)) ?_ | refine Eq.trans (gR_k (by omega)) ?_ | refine Eq.trans (zu0_ne2 (by omega)) ?_ | refine Eq.trans (gI_2) ?_)) <;> first | exact g0_hit2 | exact gR_hit | rfl
    have z2 := z1.symm.trans z
    omega
  have z1 : (zuR (zini 419 444 (zuR (zini 394 419 (zuR (zu0 (zuR (zu0 (zuR (zu0 (zuR (zu0 (zuR (zini 384 390 (zuR (zini 359 384 (zuR (zu0 (zuR (zu0 (zuR (zini 30 357 (zuR (zini 23 30 (zuR (zini 16 23 (zuI (zuI (zuR (zini 2 16 (zuI (zuR (zu0 (zu0 σ 0) 1) 0 0 2) 0 1 0)) 0 2 3) 0 3 0) 0 4 (-1))) 0 5 17)) 0 6 24)) 0 7 31) 357) 0 8 358) 358) 0 9 359)) 0 10 360)) 0 11 385) 390) 0 12 391) 391) 0 13 392) 392) 0 14 393) 393) 0 15 394)) 357 0 395)) 357 1 420).2 0 12 = 391 := by
    (repeat (first | refine Eq.trans (gR_a (by omega)) ?_ | refine Eq.trans (gi_2 (by omega)) ?_ | refine Eq.trans (gR_k (by omega)) ?_ | refine Eq.trans (zu0_ne2 (by omega)) ?_ | refine Eq.trans (gI_2) ?_)) <;> first | exact g0_hit2 | exact gR_hit | rfl
  obtain rfl : q = 390 := by
    have z2 := hq.symm.trans z1
    omega
  clear hq z1
  rw [show zlay 390 = (25, 4) from rfl]
  refine And.intro (fun z => absurd z (by decide)) (fun _ => ?_)
  refine And.intro ?_ (fun q hq => ?_)
  · intro z
    have z1 : (zuR (zini 419 444 (zuR (zini 394 419 (zuR (zu0 (zuR (zu0 (zuR (zu0 (zuR (zu0 (zuR (zini 384 390 (zuR (zini 359 384 (zuR (zu0 (zuR (zu0 (zuR (zini 30 357 (zuR (zini 23 30 (zuR (zini 16 23 (zuI (zuI (zuR (zini 2 16 (zuI (zuR (zu0 (zu0 σ 0) 1) 0 0 2) 0 1 0)) 0 2 3) 0 3 0) 0 4 (-1))) 0 5 17)) 0 6 24)) 0 7 31) 357) 0 8 358) 358) 0 9 359)) 0 10 360)) 0 11 385) 390) 0 12 391) 391) 0 13 392) 392) 0 14 393) 393) 0 15 394)) 357 0 395)) 357 1 420).2 0 12 = 391 := by
      (repeat (first | refine Eq.trans (gR_a (by omega)) ?_ | refine Eq.trans (gi_2 (by omega)) ?_ | refine Eq.trans (gR_k (by omega)) ?_ | refine Eq.trans (zu0_ne2 (by omega)) ?_ | refine Eq.trans (gI_2) ?_)) <;> first | exact g0_hit2 | exact gR_hit | rfl
    have z2 := z1.symm.trans z
    omega
  have z1 : (zuR (zini 419 444 (zuR (zini 394 419 (zuR (zu0 (zuR (zu0 (zuR (zu0 (zuR (zu0 (zuR (zini 384 390 (zuR (zini 359 384 (zuR (zu0 (zuR (zu0 (zuR (zini 30 357 (zuR (zini 23 30 (zuR (zini 16 23 (zuI (zuI (zuR (zini 2 16 (zuI (zuR (zu0 (zu0 σ 0) 1) 0 0 2) 0 1 0)) 0 2 3) 0 3 0) 0 4 (-1))) 0 5 17)) 0 6 24)) 0 7 31) 357) 0 8 358) 358) 0 9 359)) 0 10 360)) 0 11 385) 390) 0 12 391) 391) 0 13 392) 392) 0 14 393) 393) 0 15 394)) 357 0 395)) 357 1 420).2 0 12 = 391 := by
    (repeat (first | refine Eq.trans (gR_a (by omega)) ?_ | refine Eq.trans (gi_2 (by omega)) ?_ | refine Eq.trans (gR_k (by omega)) ?_ | refine Eq.trans (zu0_ne2 (by omega)) ?_ | refine Eq.trans (gI_2) ?_)) <;> first | exact g0_hit2 | exact gR_hit | rfl
  obtain rfl : q = 390 := by
    have z2 := hq.symm.trans z1
    omega
  clear hq z1
  rw [show zlay 390 = (25, 4) from rfl]
  refine And.intro rfl (And.intro rfl (And.intro (by omega) ?_))
  refine ⟨zno, 450, by omega, zsl_mono (by omega), zCl.use (n_X7 444 (zuR (zini 419 444 (zuR (zini 394 419 (zuR (zu0 (zuR (zu0 (zuR (zu0 (zuR (zu0 (zuR (zini 384 390 (zuR (zini 359 384 (zuR (zu0 (zuR (zu0 (zuR (zini 30 357 (zuR (zini 23 30 (zuR (zini 16 23 (zuI (zuI (zuR (zini 2 16 (zuI (zuR (zu0 (zu0 σ 0) 1) 0 0 2) 0 1 0)) 0 2 3) 0 3 0) 0 4 (-1))) 0 5 17)) 0 6 24)) 0 7 31) 357) 0 8 358) 358) 0 9 359)) 0 10 360)) 0 11 385) 390) 0 12 391) 391) 0 13 392) 392) 0 14 393) 393) 0 15 394)) 357 0 395)) 357 1 420) (by omega) (by decide +kernel)) (by decide) ?_⟩
  rintro _ σz ⟨rfl, hz0⟩
  subst σz
  refine And.intro (vp_in_iff.mpr (by decide)) ?_
  refine And.intro ?_ (fun q hq => ?_)
  · intro z
    have z1 : (zuR (zini 444 450 (zuR (zini 419 444 (zuR (zini 394 419 (zuR (zu0 (zuR (zu0 (zuR (zu0 (zuR (zu0 (zuR (zini 384 390 (zuR (zini 359 384 (zuR (zu0 (zuR (zu0 (zuR (zini 30 357 (zuR (zini 23 30 (zuR (zini 16 23 (zuI (zuI (zuR (zini 2 16 (zuI (zuR (zu0 (zu0 σ 0) 1) 0 0 2) 0 1 0)) 0 2 3) 0 3 0) 0 4 (-1))) 0 5 17)) 0 6 24)) 0 7 31) 357) 0 8 358) 358) 0 9 359)) 0 10 360)) 0 11 385) 390) 0 12 391) 391) 0 13 392) 392) 0 14 393) 393) 0 15 394)) 357 0 395)) 357 1 420)) 390 0 445).2 0 12 = 391 := by
      (repeat (first | refine Eq.trans (gR_a (by omega)) ?_ | refine Eq.trans (gi_2 (by omega)) ?_ | refine Eq.trans (gR_k (by omega)) ?_ | refine Eq.trans (zu0_ne2 (by omega)) ?_ | refine Eq.trans (gI_2) ?_)) <;> first | exact g0_hit2 | exact gR_hit | rfl
    have z2 := z1.symm.trans z
    omega
  have z1 : (zuR (zini 444 450 (zuR (zini 419 444 (zuR (zini 394 419 (zuR (zu0 (zuR (zu0 (zuR (zu0 (zuR (zu0 (zuR (zini 384 390 (zuR (zini 359 384 (zuR (zu0 (zuR (zu0 (zuR (zini 30 357 (zuR (zini 23 30 (zuR (zini 16 23 (zuI (zuI (zuR (zini 2 16 (zuI (zuR (zu0 (zu0 σ 0) 1) 0 0 2) 0 1 0)) 0 2 3) 0 3 0) 0 4 (-1))) 0 5 17)) 0 6 24)) 0 7 31) 357) 0 8 358) 358) 0 9 359)) 0 10 360)) 0 11 385) 390) 0 12 391) 391) 0 13 392) 392) 0 14 393) 393) 0 15 394)) 357 0 395)) 357 1 420)) 390 0 445).2 0 12 = 391 := by
    (repeat (first | refine Eq.trans (gR_a (by omega)) ?_ | refine Eq.trans (gi_2 (by omega)) ?_ | refine Eq.trans (gR_k (by omega)) ?_ | refine Eq.trans (zu0_ne2 (by omega)) ?_ | refine Eq.trans (gI_2) ?_)) <;> first | exact g0_hit2 | exact gR_hit | rfl
  obtain rfl : q = 390 := by
    have z2 := hq.symm.trans z1
    omega
  clear hq z1
  rw [show zlay 390 = (25, 4) from rfl]
  refine And.intro (fun z => absurd z (by decide)) (fun _ => ?_)
  refine And.intro ?_ (fun q hq => ?_)
  · intro z
    have z1 : (zuR (zini 444 450 (zuR (zini 419 444 (zuR (zini 394 419 (zuR (zu0 (zuR (zu0 (zuR (zu0 (zuR (zu0 (zuR (zini 384 390 (zuR (zini 359 384 (zuR (zu0 (zuR (zu0 (zuR (zini 30 357 (zuR (zini 23 30 (zuR (zini 16 23 (zuI (zuI (zuR (zini 2 16 (zuI (zuR (zu0 (zu0 σ 0) 1) 0 0 2) 0 1 0)) 0 2 3) 0 3 0) 0 4 (-1))) 0 5 17)) 0 6 24)) 0 7 31) 357) 0 8 358) 358) 0 9 359)) 0 10 360)) 0 11 385) 390) 0 12 391) 391) 0 13 392) 392) 0 14 393) 393) 0 15 394)) 357 0 395)) 357 1 420)) 390 0 445).2 0 12 = 391 := by
      (repeat (first | refine Eq.trans (gR_a (by omega)) ?_ | refine Eq.trans (gi_2 (by omega)) ?_ | refine Eq.trans (gR_k (by omega)) ?_ | refine Eq.trans (zu0_ne2 (by omega)) ?_ | refine Eq.trans (gI_2) ?_)) <;> first | exact g0_hit2 | exact gR_hit | rfl
    have z2 := z1.symm.trans z
    omega
  have z1 : (zuR (zini 444 450 (zuR (zini 419 444 (zuR (zini 394 419 (zuR (zu0 (zuR (zu0 (zuR (zu0 (zuR (zu0 (zuR (zini 384 390 (zuR (zini 359 384 (zuR (zu0 (zuR (zu0 (zuR (zini 30 357 (zuR (zini 23 30 (zuR (zini 16 23 (zuI (zuI (zuR (zini 2 16 (zuI (zuR (zu0 (zu0 σ 0) 1) 0 0 2) 0 1 0)) 0 2 3) 0 3 0) 0 4 (-1))) 0 5 17)) 0 6 24)) 0 7 31) 357) 0 8 358) 358) 0 9 359)) 0 10 360)) 0 11 385) 390) 0 12 391) 391) 0 13 392) 392) 0 14 393) 393) 0 15 394)) 357 0 395)) 357 1 420)) 390 0 445).2 0 12 = 391 := by
    (repeat (first | refine Eq.trans (gR_a (by omega)) ?_ | refine Eq.trans (gi_2 (by omega)) ?_ | refine Eq.trans (gR_k (by omega)) ?_ | refine Eq.trans (zu0_ne2 (by omega)) ?_ | refine Eq.trans (gI_2) ?_)) <;> first | exact g0_hit2 | exact gR_hit | rfl
  obtain rfl : q = 390 := by
    have z2 := hq.symm.trans z1
    omega
  clear hq z1
  rw [show zlay 390 = (25, 4) from rfl]
  refine And.intro rfl (And.intro rfl (And.intro (by omega) ?_))
  refine ⟨zno, 456, by omega, zsl_mono (by omega), zCl.use (n_X7 450 (zuR (zini 444 450 (zuR (zini 419 444 (zuR (zini 394 419 (zuR (zu0 (zuR (zu0 (zuR (zu0 (zuR (zu0 (zuR (zini 384 390 (zuR (zini 359 384 (zuR (zu0 (zuR (zu0 (zuR (zini 30 357 (zuR (zini 23 30 (zuR (zini 16 23 (zuI (zuI (zuR (zini 2 16 (zuI (zuR (zu0 (zu0 σ 0) 1) 0 0 2) 0 1 0)) 0 2 3) 0 3 0) 0 4 (-1))) 0 5 17)) 0 6 24)) 0 7 31) 357) 0 8 358) 358) 0 9 359)) 0 10 360)) 0 11 385) 390) 0 12 391) 391) 0 13 392) 392) 0 14 393) 393) 0 15 394)) 357 0 395)) 357 1 420)) 390 0 445) (by omega) (by decide +kernel)) (by decide) ?_⟩
  rintro _ σz ⟨rfl, hz0⟩
  subst σz
  refine And.intro (vp_in_iff.mpr (by decide)) ?_
  refine And.intro ?_ (fun q hq => ?_)
  · intro z
    have z1 : (zuR (zini 450 456 (zuR (zini 444 450 (zuR (zini 419 444 (zuR (zini 394 419 (zuR (zu0 (zuR (zu0 (zuR (zu0 (zuR (zu0 (zuR (zini 384 390 (zuR (zini 359 384 (zuR (zu0 (zuR (zu0 (zuR (zini 30 357 (zuR (zini 23 30 (zuR (zini 16 23 (zuI (zuI (zuR (zini 2 16 (zuI (zuR (zu0 (zu0 σ 0) 1) 0 0 2) 0 1 0)) 0 2 3) 0 3 0) 0 4 (-1))) 0 5 17)) 0 6 24)) 0 7 31) 357) 0 8 358) 358) 0 9 359)) 0 10 360)) 0 11 385) 390) 0 12 391) 391) 0 13 392) 392) 0 14 393) 393) 0 15 394)) 357 0 395)) 357 1 420)) 390 0 445)) 390 1 451).2 0 12 = 391 := by
      (repeat (first | refine Eq.trans (gR_a (by omega)) ?_ | refine Eq.trans (gi_2 (by omega)) ?_ | refine Eq.trans (gR_k (by omega)) ?_ | refine Eq.trans (zu0_ne2 (by omega)) ?_ | refine Eq.trans (gI_2) ?_)) <;> first | exact g0_hit2 | exact gR_hit | rfl
    have z2 := z1.symm.trans z
    omega
  have z1 : (zuR (zini 450 456 (zuR (zini 444 450 (zuR (zini 419 444 (zuR (zini 394 419 (zuR (zu0 (zuR (zu0 (zuR (zu0 (zuR (zu0 (zuR (zini 384 390 (zuR (zini 359 384 (zuR (zu0 (zuR (zu0 (zuR (zini 30 357 (zuR (zini 23 30 (zuR (zini 16 23 (zuI (zuI (zuR (zini 2 16 (zuI (zuR (zu0 (zu0 σ 0) 1) 0 0 2) 0 1 0)) 0 2 3) 0 3 0) 0 4 (-1))) 0 5 17)) 0 6 24)) 0 7 31) 357) 0 8 358) 358) 0 9 359)) 0 10 360)) 0 11 385) 390) 0 12 391) 391) 0 13 392) 392) 0 14 393) 393) 0 15 394)) 357 0 395)) 357 1 420)) 390 0 445)) 390 1 451).2 0 12 = 391 := by
    (repeat (first | refine Eq.trans (gR_a (by omega)) ?_ | refine Eq.trans (gi_2 (by omega)) ?_ | refine Eq.trans (gR_k (by omega)) ?_ | refine Eq.trans (zu0_ne2 (by omega)) ?_ | refine Eq.trans (gI_2) ?_)) <;> first | exact g0_hit2 | exact gR_hit | rfl
  obtain rfl : q = 390 := by
    have z2 := hq.symm.trans z1
    omega
  clear hq z1
  rw [show zlay 390 = (25, 4) from rfl]
  refine And.intro (fun z => absurd z (by decide)) (fun _ => ?_)
  refine And.intro ?_ (fun q hq => ?_)
  · intro z
    have z1 : (zuR (zini 450 456 (zuR (zini 444 450 (zuR (zini 419 444 (zuR (zini 394 419 (zuR (zu0 (zuR (zu0 (zuR (zu0 (zuR (zu0 (zuR (zini 384 390 (zuR (zini 359 384 (zuR (zu0 (zuR (zu0 (zuR (zini 30 357 (zuR (zini 23 30 (zuR (zini 16 23 (zuI (zuI (zuR (zini 2 16 (zuI (zuR (zu0 (zu0 σ 0) 1) 0 0 2) 0 1 0)) 0 2 3) 0 3 0) 0 4 (-1))) 0 5 17)) 0 6 24)) 0 7 31) 357) 0 8 358) 358) 0 9 359)) 0 10 360)) 0 11 385) 390) 0 12 391) 391) 0 13 392) 392) 0 14 393) 393) 0 15 394)) 357 0 395)) 357 1 420)) 390 0 445)) 390 1 451).2 0 12 = 391 := by
      (repeat (first | refine Eq.trans (gR_a (by omega)) ?_ | refine Eq.trans (gi_2 (by omega)) ?_ | refine Eq.trans (gR_k (by omega)) ?_ | refine Eq.trans (zu0_ne2 (by omega)) ?_ | refine Eq.trans (gI_2) ?_)) <;> first | exact g0_hit2 | exact gR_hit | rfl
    have z2 := z1.symm.trans z
    omega
  have z1 : (zuR (zini 450 456 (zuR (zini 444 450 (zuR (zini 419 444 (zuR (zini 394 419 (zuR (zu0 (zuR (zu0 (zuR (zu0 (zuR (zu0 (zuR (zini 384 390 (zuR (zini 359 384 (zuR (zu0 (zuR (zu0 (zuR (zini 30 357 (zuR (zini 23 30 (zuR (zini 16 23 (zuI (zuI (zuR (zini 2 16 (zuI (zuR (zu0 (zu0 σ 0) 1) 0 0 2) 0 1 0)) 0 2 3) 0 3 0) 0 4 (-1))) 0 5 17)) 0 6 24)) 0 7 31) 357) 0 8 358) 358) 0 9 359)) 0 10 360)) 0 11 385) 390) 0 12 391) 391) 0 13 392) 392) 0 14 393) 393) 0 15 394)) 357 0 395)) 357 1 420)) 390 0 445)) 390 1 451).2 0 12 = 391 := by
    (repeat (first | refine Eq.trans (gR_a (by omega)) ?_ | refine Eq.trans (gi_2 (by omega)) ?_ | refine Eq.trans (gR_k (by omega)) ?_ | refine Eq.trans (zu0_ne2 (by omega)) ?_ | refine Eq.trans (gI_2) ?_)) <;> first | exact g0_hit2 | exact gR_hit | rfl
  obtain rfl : q = 390 := by
    have z2 := hq.symm.trans z1
    omega
  clear hq z1
  rw [show zlay 390 = (25, 4) from rfl]
  refine And.intro rfl (And.intro rfl (And.intro (by omega) ?_))
  refine ⟨zno, 462, by omega, zsl_mono (by omega), zCl.use (n_X7 456 (zuR (zini 450 456 (zuR (zini 444 450 (zuR (zini 419 444 (zuR (zini 394 419 (zuR (zu0 (zuR (zu0 (zuR (zu0 (zuR (zu0 (zuR (zini 384 390 (zuR (zini 359 384 (zuR (zu0 (zuR (zu0 (zuR (zini 30 357 (zuR (zini 23 30 (zuR (zini 16 23 (zuI (zuI (zuR (zini 2 16 (zuI (zuR (zu0 (zu0 σ 0) 1) 0 0 2) 0 1 0)) 0 2 3) 0 3 0) 0 4 (-1))) 0 5 17)) 0 6 24)) 0 7 31) 357) 0 8 358) 358) 0 9 359)) 0 10 360)) 0 11 385) 390) 0 12 391) 391) 0 13 392) 392) 0 14 393) 393) 0 15 394)) 357 0 395)) 357 1 420)) 390 0 445)) 390 1 451) (by omega) (by decide +kernel)) (by decide) ?_⟩
  rintro _ σz ⟨rfl, hz0⟩
  subst σz
  refine And.intro (vp_in_iff.mpr (by decide)) ?_
  refine And.intro ?_ (fun q hq => ?_)
  · intro z
    have z1 : (zuR (zini 456 462 (zuR (zini 450 456 (zuR (zini 444 450 (zuR (zini 419 444 (zuR (zini 394 419 (zuR (zu0 (zuR (zu0 (zuR (zu0 (zuR (zu0 (zuR (zini 384 390 (zuR (zini 359 384 (zuR (zu0 (zuR (zu0 (zuR (zini 30 357 (zuR (zini 23 30 (zuR (zini 16 23 (zuI (zuI (zuR (zini 2 16 (zuI (zuR (zu0 (zu0 σ 0) 1) 0 0 2) 0 1 0)) 0 2 3) 0 3 0) 0 4 (-1))) 0 5 17)) 0 6 24)) 0 7 31) 357) 0 8 358) 358) 0 9 359)) 0 10 360)) 0 11 385) 390) 0 12 391) 391) 0 13 392) 392) 0 14 393) 393) 0 15 394)) 357 0 395)) 357 1 420)) 390 0 445)) 390 1 451)) 390 2 457).2 0 12 = 391 := by
      (repeat (first | refine Eq.trans (gR_a (by omega)) ?_ | refine Eq.trans (gi_2 (by omega)) ?_ | refine Eq.trans (gR_k (by omega)) ?_ | refine Eq.trans (zu0_ne2 (by omega)) ?_ | refine Eq.trans (gI_2) ?_)) <;> first | exact g0_hit2 | exact gR_hit | rfl
    have z2 := z1.symm.trans z
    omega
  have z1 : (zuR (zini 456 462 (zuR (zini 450 456 (zuR (zini 444 450 (zuR (zini 419 444 (zuR (zini 394 419 (zuR (zu0 (zuR (zu0 (zuR (zu0 (zuR (zu0 (zuR (zini 384 390 (zuR (zini 359 384 (zuR (zu0 (zuR (zu0 (zuR (zini 30 357 (zuR (zini 23 30 (zuR (zini 16 23 (zuI (zuI (zuR (zini 2 16 (zuI (zuR (zu0 (zu0 σ 0) 1) 0 0 2) 0 1 0)) 0 2 3) 0 3 0) 0 4 (-1))) 0 5 17)) 0 6 24)) 0 7 31) 357) 0 8 358) 358) 0 9 359)) 0 10 360)) 0 11 385) 390) 0 12 391) 391) 0 13 392) 392) 0 14 393) 393) 0 15 394)) 357 0 395)) 357 1 420)) 390 0 445)) 390 1 451)) 390 2 457).2 0 12 = 391 := by
    (repeat (first | refine Eq.trans (gR_a (by omega)) ?_ | refine Eq.trans (gi_2 (by omega)) ?_ | refine Eq.trans (gR_k (by omega)) ?_ | refine Eq.trans (zu0_ne2 (by omega)) ?_ | refine Eq.trans (gI_2) ?_)) <;> first | exact g0_hit2 | exact gR_hit | rfl
  obtain rfl : q = 390 := by
    have z2 := hq.symm.trans z1
    omega
  clear hq z1
  rw [show zlay 390 = (25, 4) from rfl]
  refine And.intro (fun z => absurd z (by decide)) (fun _ => ?_)
  refine And.intro ?_ (fun q hq => ?_)
  · intro z
    have z1 : (zuR (zini 456 462 (zuR (zini 450 456 (zuR (zini 444 450 (zuR (zini 419 444 (zuR (zini 394 419 (zuR (zu0 (zuR (zu0 (zuR (zu0 (zuR (zu0 (zuR (zini 384 390 (zuR (zini 359 384 (zuR (zu0 (zuR (zu0 (zuR (zini 30 357 (zuR (zini 23 30 (zuR (zini 16 23 (zuI (zuI (zuR (zini 2 16 (zuI (zuR (zu0 (zu0 σ 0) 1) 0 0 2) 0 1 0)) 0 2 3) 0 3 0) 0 4 (-1))) 0 5 17)) 0 6 24)) 0 7 31) 357) 0 8 358) 358) 0 9 359)) 0 10 360)) 0 11 385) 390) 0 12 391) 391) 0 13 392) 392) 0 14 393) 393) 0 15 394)) 357 0 395)) 357 1 420)) 390 0 445)) 390 1 451)) 390 2 457).2 0 12 = 391 := by
      (repeat (first | refine Eq.trans (gR_a (by omega)) ?_ | refine Eq.trans (gi_2 (by omega)) ?_ | refine Eq.trans (gR_k (by omega)) ?_ | refine Eq.trans (zu0_ne2 (by omega)) ?_ | refine Eq.trans (gI_2) ?_)) <;> first | exact g0_hit2 | exact gR_hit | rfl
    have z2 := z1.symm.trans z
    omega
  have z1 : (zuR (zini 456 462 (zuR (zini 450 456 (zuR (zini 444 450 (zuR (zini 419 444 (zuR (zini 394 419 (zuR (zu0 (zuR (zu0 (zuR (zu0 (zuR (zu0 (zuR (zini 384 390 (zuR (zini 359 384 (zuR (zu0 (zuR (zu0 (zuR (zini 30 357 (zuR (zini 23 30 (zuR (zini 16 23 (zuI (zuI (zuR (zini 2 16 (zuI (zuR (zu0 (zu0 σ 0) 1) 0 0 2) 0 1 0)) 0 2 3) 0 3 0) 0 4 (-1))) 0 5 17)) 0 6 24)) 0 7 31) 357) 0 8 358) 358) 0 9 359)) 0 10 360)) 0 11 385) 390) 0 12 391) 391) 0 13 392) 392) 0 14 393) 393) 0 15 394)) 357 0 395)) 357 1 420)) 390 0 445)) 390 1 451)) 390 2 457).2 0 12 = 391 := by
    (repeat (first | refine Eq.trans (gR_a (by omega)) ?_ | refine Eq.trans (gi_2 (by omega)) ?_ | refine Eq.trans (gR_k (by omega)) ?_ | refine Eq.trans (zu0_ne2 (by omega)) ?_ | refine Eq.trans (gI_2) ?_)) <;> first | exact g0_hit2 | exact gR_hit | rfl
  obtain rfl : q = 390 := by
    have z2 := hq.symm.trans z1
    omega
  clear hq z1
  rw [show zlay 390 = (25, 4) from rfl]
  refine And.intro rfl (And.intro rfl (And.intro (by omega) ?_))
  refine ⟨zno, 468, by omega, zsl_mono (by omega), zCl.use (n_X7 462 (zuR (zini 456 462 (zuR (zini 450 456 (zuR (zini 444 450 (zuR (zini 419 444 (zuR (zini 394 419 (zuR (zu0 (zuR (zu0 (zuR (zu0 (zuR (zu0 (zuR (zini 384 390 (zuR (zini 359 384 (zuR (zu0 (zuR (zu0 (zuR (zini 30 357 (zuR (zini 23 30 (zuR (zini 16 23 (zuI (zuI (zuR (zini 2 16 (zuI (zuR (zu0 (zu0 σ 0) 1) 0 0 2) 0 1 0)) 0 2 3) 0 3 0) 0 4 (-1))) 0 5 17)) 0 6 24)) 0 7 31) 357) 0 8 358) 358) 0 9 359)) 0 10 360)) 0 11 385) 390) 0 12 391) 391) 0 13 392) 392) 0 14 393) 393) 0 15 394)) 357 0 395)) 357 1 420)) 390 0 445)) 390 1 451)) 390 2 457) (by omega) (by decide +kernel)) (by decide) ?_⟩
  rintro _ σz ⟨rfl, hz0⟩
  subst σz
  refine And.intro (vp_in_iff.mpr (by decide)) ?_
  refine And.intro ?_ (fun q hq => ?_)
  · intro z
    have z1 : (zuR (zini 462 468 (zuR (zini 456 462 (zuR (zini 450 456 (zuR (zini 444 450 (zuR (zini 419 444 (zuR (zini 394 419 (zuR (zu0 (zuR (zu0 (zuR (zu0 (zuR (zu0 (zuR (zini 384 390 (zuR (zini 359 384 (zuR (zu0 (zuR (zu0 (zuR (zini 30 357 (zuR (zini 23 30 (zuR (zini 16 23 (zuI (zuI (zuR (zini 2 16 (zuI (zuR (zu0 (zu0 σ 0) 1) 0 0 2) 0 1 0)) 0 2 3) 0 3 0) 0 4 (-1))) 0 5 17)) 0 6 24)) 0 7 31) 357) 0 8 358) 358) 0 9 359)) 0 10 360)) 0 11 385) 390) 0 12 391) 391) 0 13 392) 392) 0 14 393) 393) 0 15 394)) 357 0 395)) 357 1 420)) 390 0 445)) 390 1 451)) 390 2 457)) 390 3 463).2 0 12 = 391 := by
      (repeat (first | refine Eq.trans (gR_a (by omega)) ?_ | refine Eq.trans (gi_2 (by omega)) ?_ | refine Eq.trans (gR_k (by omega)) ?_ | refine Eq.trans (zu0_ne2 (by omega)) ?_ | refine Eq.trans (gI_2) ?_)) <;> first | exact g0_hit2 | exact gR_hit | rfl
    have z2 := z1.symm.trans z
    omega
  have z1 : (zuR (zini 462 468 (zuR (zini 456 462 (zuR (zini 450 456 (zuR (zini 444 450 (zuR (zini 419 444 (zuR (zini 394 419 (zuR (zu0 (zuR (zu0 (zuR (zu0 (zuR (zu0 (zuR (zini 384 390 (zuR (zini 359 384 (zuR (zu0 (zuR (zu0 (zuR (zini 30 357 (zuR (zini 23 30 (zuR (zini 16 23 (zuI (zuI (zuR (zini 2 16 (zuI (zuR (zu0 (zu0 σ 0) 1) 0 0 2) 0 1 0)) 0 2 3) 0 3 0) 0 4 (-1))) 0 5 17)) 0 6 24)) 0 7 31) 357) 0 8 358) 358) 0 9 359)) 0 10 360)) 0 11 385) 390) 0 12 391) 391) 0 13 392) 392) 0 14 393) 393) 0 15 394)) 357 0 395)) 357 1 420)) 390 0 445)) 390 1 451)) 390 2 457)) 390 3 463).2 0 12 = 391 := by
    (repeat (first | refine Eq.trans (gR_a (by omega)) ?_ | refine Eq.trans (gi_2 (by omega)) ?_ | refine Eq.trans (gR_k (by omega)) ?_ | refine Eq.trans (zu0_ne2 (by omega)) ?_ | refine Eq.trans (gI_2) ?_)) <;> first | exact g0_hit2 | exact gR_hit | rfl
  obtain rfl : q = 390 := by
    have z2 := hq.symm.trans z1
    omega
  clear hq z1
  rw [show zlay 390 = (25, 4) from rfl]
  refine And.intro (fun _ => ?_) (fun z => absurd (by decide) z)
  show zWp 20 zall 468 108 _ zno 468 200 _ [] (zuR (zini 462 468 (zuR (zini 456 462 (zuR (zini 450 456 (zuR (zini 444 450 (zuR (zini 419 444 (zuR (zini 394 419 (zuR (zu0 (zuR (zu0 (zuR (zu0 (zuR (zu0 (zuR (zini 384 390 (zuR (zini 359 384 (zuR (zu0 (zuR (zu0 (zuR (zini 30 357 (zuR (zini 23 30 (zuR (zini 16 23 (zuI (zuI (zuR (zini 2 16 (zuI (zuR (zu0 (zu0 σ 0) 1) 0 0 2) 0 1 0)) 0 2 3) 0 3 0) 0 4 (-1))) 0 5 17)) 0 6 24)) 0 7 31) 357) 0 8 358) 358) 0 9 359)) 0 10 360)) 0 11 385) 390) 0 12 391) 391) 0 13 392) 392) 0 14 393) 393) 0 15 394)) 357 0 395)) 357 1 420)) 390 0 445)) 390 1 451)) 390 2 457)) 390 3 463)
  rw [m_X8 σ]
  refine zWp.complete (cp1 := zall) (fun a ha => Or.inr (fun k hk => ?_)) ?_
  · obtain ⟨z1, z2⟩ := zk1_at (by omega) hk
    rw [if_pos ha] at z2
    rw [zini_at2, if_pos ⟨Nat.zero_le _, ha⟩]
    exact ⟨z1, z2⟩
  refine zvc_sound (cd := kX8_init) (cs := []) rfl okX8_init 1000 _ _ 200 (zseek kX8_init 200) _ _ _ zseek_sub ?_
  refine And.intro (fun z => absurd (show (17 : Nat) = 0 from z) (by decide)) (fun q hq => ?_)
  obtain rfl : q = 16 := by
    have z2 : (17 : Nat) = q + 1 := hq
    omega
  clear hq
  rw [show zlay 16 = (2, 16) from rfl]
  refine zCl.use (c_X1_startAnew 16 N (zini 0 468 σ) hp) (Nat.le_of_ble_eq_true rfl) ?_
  rintro _ σz ⟨rfl, hz0⟩
  subst σz
  exact And.intro rfl (And.intro rfl ⟨rfl, rfl⟩)
def zlow : Nat → Bool := fun a => Nat.blt a 468
def zuL (a : Nat) : List Int32 → Nat → zS → zS
  | [], _, τ => τ
  | x :: r, k, τ => zuL a r (k + 1) (zuI τ a k x)
def zmk (o : Nat) : List (Nat × Nat) → zS → zS
  | [], τ => τ
  | (f, a) :: r, τ => zmk o r (zuR (zu0 τ a) o f (a + 1))
def zlook (j : Nat) : List (Nat × Nat) → Nat → Nat
  | [], d => d
  | (f, a) :: r, d => zlook j r (if j = f then a + 1 else d)
theorem zuL_2 {a q j : Nat} : ∀ (L : List Int32) (k : Nat) (τ : zS), (zuL a L k τ).2 q j = τ.2 q j
  | [], _, _ => rfl
  | _ :: r, k, τ => (zuL_2 r (k + 1) _).trans rfl
theorem zuL_ne {a q j : Nat} (h : ¬ q = a) : ∀ (L : List Int32) (k : Nat) (τ : zS), (zuL a L k τ).1 q j = τ.1 q j
  | [], _, _ => rfl
  | _ :: r, k, τ => (zuL_ne h r (k + 1) _).trans (gI_a h)
theorem zuL_lo {a j : Nat} : ∀ (L : List Int32) (k : Nat) (τ : zS), j < k → (zuL a L k τ).1 a j = τ.1 a j
  | [], _, _, _ => rfl
  | _ :: r, k, τ, h => (zuL_lo r (k + 1) _ (by omega)).trans (gI_k (by omega))
theorem zuL_at {a j : Nat} : ∀ (L : List Int32) (k : Nat) (τ : zS), k ≤ j → (zuL a L k τ).1 a j = if j < k + L.length then L.getD (j - k) 0 else τ.1 a j
  | [], k, τ, h => (if_neg (by simp; omega)).symm
  | x :: r, k, τ, h => by
    by_cases c : j = k
    · subst c
      rw [zuL, zuL_lo r _ _ (by omega), gI_hit, if_pos (by simp), Nat.sub_self]
      rfl
    · rw [zuL, zuL_at r (k + 1) _ (by omega), gI_k c]
      by_cases c1 : j < k + 1 + r.length
      · rw [if_pos c1, if_pos (by simp; omega), show j - k = (j - (k + 1)) + 1 by omega]
        rfl
      · rw [if_neg c1, if_neg (by simp; omega)]
theorem zmk_look {o j : Nat} : ∀ (L : List (Nat × Nat)) (τ : zS), (∀ q ∈ L, ¬ o = q.2) → (zmk o L τ).2 o j = zlook j L (τ.2 o j)
  | [], _, _ => rfl
  | (f, a) :: r, τ, h => by
    have h1 : ¬ o = a := h (f, a) (List.mem_cons_self)
    rw [zmk, zlook, zmk_look r _ (fun q hq => h q (List.mem_cons_of_mem _ hq))]
    congr 1
    by_cases c : j = f
    · rw [if_pos c, c, gR_hit]
    · rw [if_neg c, gR_k c, zu0_ne2 h1]
theorem zmk_1 {o j : Nat} : ∀ (L : List (Nat × Nat)) (τ : zS), (∀ q ∈ L, ¬ o = q.2) → (zmk o L τ).1 o j = τ.1 o j
  | [], _, _ => rfl
  | (f, a) :: r, τ, h => by
    have h1 : ¬ o = a := h (f, a) (List.mem_cons_self)
    rw [zmk, zmk_1 r _ (fun q hq => h q (List.mem_cons_of_mem _ hq)), gR_1, zu0_ne1 h1]
theorem zini_arr2 {a : Nat} {σ : zS} (h : (zlay a).1 = 21) (ha : ¬ a = 486) : zu0 σ a = zini a (a + 1) σ := by
  refine zext (fun q j => ?_) (fun q j => ?_)
  · show (if q = a then 0 else σ.1 q j) = if a ≤ q ∧ q < a + 1 then iI q j else σ.1 q j
    by_cases hq : q = a
    · subst hq
      rw [if_pos rfl, if_pos (by omega)]
      unfold iI
      rw [h]
      show (0 : Int32) = if q = 486 then iL.getD j 0 else 0
      rw [if_neg ha]
    · rw [if_neg hq, if_neg (by omega)]
  · show (if q = a then 0 else σ.2 q j) = if a ≤ q ∧ q < a + 1 then iR q j else σ.2 q j
    by_cases hq : q = a
    · subst hq
      rw [if_pos rfl, if_pos (by omega)]
      unfold iR
      rw [h]
      rfl
    · rw [if_neg hq, if_neg (by omega)]
theorem iI_468 (j : Nat) : iI 468 j = if j = 28 then -1 else 0 := by
  unfold iI
  rw [show zlay 468 = (9, 57) from rfl]
  show (match j with | 28 => (-1 : Int32) | _ => 0) = _
  split
  · rfl
  · rename_i h
    rw [if_neg (fun z => h z)]
theorem zmk_rs {S : Nat → Bool} {o e : Nat} {σ : zS} (hs : S o = true) (he : o ≤ e) : ∀ (L : List (Nat × Nat)) (d : Nat) (τ : zS), zrs S o (e + d) σ τ → (∀ i, i < L.length → (L.getD i (0, 0)).2 = e + d + i ∧ (((zlay (e + d + i)).1 = 20 ∨ (zlay (e + d + i)).1 = 22) ∨ ((zlay (e + d + i)).1 = 21 ∧ ¬ e + d + i = 486))) → zrs S o (e + d + L.length) σ (zmk o L τ)
  | [], _, _, h, _ => h
  | (f, a) :: r, d, τ, h, hl => by
    have h0 := hl 0 (by simp)
    have ha : a = e + d := h0.1
    subst ha
    have h3 : zrs S o (e + d + 1) σ (zu0 τ (e + d)) := by
      rcases h0.2 with h4 | h4
      · exact h.arr (n := (zlay (e + d)).2) (t := (zlay (e + d)).1) (by omega) rfl h4
      · rw [zini_arr2 (a := e + d) h4.1 h4.2]
        exact h.ini (by omega) (by omega)
    have h2 := zmk_rs hs he r (d + 1) _ (h3.uR (k := f) (n := e + d + 1) hs) (fun i hi => by
      have h1 := hl (i + 1) (by simp; omega)
      rw [show e + (d + 1) + i = e + d + (i + 1) by omega]
      exact h1)
    rw [show e + d + ((f, e + d) :: r).length = e + (d + 1) + r.length by simp; omega]
    exact h2
def zmA : List (Nat × Nat) := [(0, 469), (1, 470), (2, 471), (3, 472), (4, 473), (5, 474), (6, 475), (7, 476), (8, 477), (9, 478), (10, 479), (11, 480), (12, 481), (13, 482), (14, 483), (15, 484), (17, 485)]
def zmB : List (Nat × Nat) := []
def zmC : List (Nat × Nat) := [(30, 487), (31, 488), (34, 489), (35, 490), (36, 491), (40, 492), (43, 493), (44, 494), (49, 495), (50, 496), (51, 497), (52, 498), (53, 499), (54, 500)]
theorem zmABC : (∀ q ∈ zmA, ¬ 468 = q.2) ∧ (∀ q ∈ zmB, ¬ 468 = q.2) ∧ (∀ q ∈ zmC, ¬ 468 = q.2) := by decide
theorem zlook_hi {j : Nat} (h : 57 ≤ j) : ∀ (L : List (Nat × Nat)) (d : Nat), (∀ q ∈ L, q.1 < 57) → zlook j L d = d
  | [], _, _ => rfl
  | (f, a) :: r, d, hl => by
    have h1 : f < 57 := hl (f, a) (List.mem_cons_self)
    rw [zlook, if_neg (by omega), zlook_hi h r d (fun q hq => hl q (List.mem_cons_of_mem _ hq))]
theorem zlook_486 : ∀ q ∈ zmC, ¬ 486 = q.2 := by decide
theorem zmk_out {o q j : Nat} : ∀ (L : List (Nat × Nat)) (τ : zS), ¬ q = o → (∀ z ∈ L, ¬ q = z.2) → (zmk o L τ).1 q j = τ.1 q j ∧ (zmk o L τ).2 q j = τ.2 q j
  | [], _, _, _ => ⟨rfl, rfl⟩
  | (f, a) :: r, τ, ho, h => by
    have h1 : ¬ q = a := h (f, a) (List.mem_cons_self)
    obtain ⟨e1, e2⟩ := zmk_out (j := j) r (zuR (zu0 τ a) o f (a + 1)) ho (fun z hz => h z (List.mem_cons_of_mem _ hz))
    rw [zmk, e1, e2, gR_1, gR_a ho, zu0_ne1 h1, zu0_ne2 h1]
    exact ⟨rfl, rfl⟩
set_option maxRecDepth 100000 in
set_option maxHeartbeats 2000000 in
theorem m_X9 (σ : zS) : (zmk 468 zmC (zuR (zuL 486 iL 0 (zu0 (zmk 468 zmB (zuI (zmk 468 zmA (zu0 σ 468)) 468 28 (-1))) 486)) 468 29 487)) = zini 468 501 σ := by
  have r0 : zrs (fun a => Nat.beq a 468 || Nat.beq a 486) 468 469 σ (zu0 σ 468) := (zrs.start (S := (fun a => Nat.beq a 468 || Nat.beq a 486)) (o := 468) (σ := σ)).spec (by decide) (Nat.le_refl _)
  have r1 := zmk_rs (e := 469) (by decide) (by decide) zmA 0 _ r0 (by decide +kernel)
  have r2 := zmk_rs (e := 469) (by decide) (by decide) zmB 17 _ (r1.uI (a := 468) (k := 28) (x := -1) (by decide)) (by decide +kernel)
  have r3 := r2.spec (by decide) (by decide)
  have r4 : zrs (fun a => Nat.beq a 468 || Nat.beq a 486) 468 487 σ (zuL 486 iL 0 (zu0 (zmk 468 zmB (zuI (zmk 468 zmA (zu0 σ 468)) 468 28 (-1))) 486)) := fun q j hq => by
    have hne : ¬ q = 486 := zrs_ne (S := (fun a => Nat.beq a 468 || Nat.beq a 486)) (by decide) hq
    rw [zuL_ne hne, zuL_2]
    exact r3 q j hq
  have r5 := zmk_rs (e := 469) (by decide) (by decide) zmC 18 _ (r4.uR (a := 468) (k := 29) (n := 487) (by decide)) (by decide +kernel)
  refine zrs.done r5 (fun a ha => ?_)
  rcases (by simpa using ha : a = 468 ∨ a = 486) with ea | ea
  · rw [ea]
    refine ⟨by decide, fun j => ⟨?_, ?_⟩⟩
    · rw [zmk_1 zmC _ zmABC.2.2, gR_1, zuL_ne (by decide), zu0_ne1 (by decide), zmk_1 zmB _ zmABC.2.1]
      rw [iI_468]
      by_cases c : j = 28
      · rw [c, gI_hit]
        rfl
      · rw [gI_k c, if_neg c, zmk_1 zmA _ zmABC.1, g0_hit1]
    · rw [zmk_look zmC _ zmABC.2.2]
      rw [iR_c (show zlay 468 = (9, 57) from rfl) (by decide)]
      have hb : (zuR (zuL 486 iL 0 (zu0 (zmk 468 zmB (zuI (zmk 468 zmA (zu0 σ 468)) 468 28 (-1))) 486)) 468 29 487).2 468 j = if j = 29 then 487 else zlook j zmB (zlook j zmA 0) := by
        by_cases c : j = 29
        · rw [c, gR_hit, if_pos rfl]
        · rw [gR_k c, if_neg c, zuL_2, zu0_ne2 (by decide), zmk_look zmB _ zmABC.2.1, gI_2, zmk_look zmA _ zmABC.1, g0_hit2]
      rw [hb]
      by_cases hj : j < 57
      · have hd : ∀ j, j < 57 → zlook j zmC (if j = 29 then 487 else zlook j zmB (zlook j zmA 0)) = iRv 468 ((iRL.getD 9 []).getD j (0, 0)) := by decide +kernel
        exact hd j hj
      · rw [if_neg (by omega), zlook_hi (by omega) zmC _ (by decide), zlook_hi (by omega) zmB _ (by decide), zlook_hi (by omega) zmA _ (by decide)]
        rw [zgetD_none (show (iRL.getD 9 []).length ≤ j from by show 57 ≤ j; omega)]
        rfl
  · rw [ea]
    refine ⟨by decide, fun j => ⟨?_, ?_⟩⟩
    · rw [(zmk_out zmC _ (by decide) zlook_486).1, gR_1, zuL_at iL 0 _ (Nat.zero_le _)]
      show _ = (if 486 = 486 then iL.getD j 0 else 0)
      rw [if_pos rfl]
      by_cases c : j < 0 + iL.length
      · rw [if_pos c, Nat.sub_zero]
      · rw [if_neg c, g0_hit1, zgetD_none (by omega)]
    · rw [(zmk_out zmC _ (by decide) zlook_486).2, gR_a (by decide), zuL_2, g0_hit2]
      rfl
set_option maxRecDepth 100000 in
set_option maxHeartbeats 4000000 in
theorem n_X9 (N : Nat) (σ : zS) (hp : p_X9_startAnew N (s_X9_clearBank 0 (zini 468 501 σ))) : zCl 20 zlow 469 zall 501 151 [.inr (9, 57, 468)] (zu0 σ 468) (fun v σ1 => v = none ∧ σ1 = s_X9_startAnew N (s_X9_clearBank 0 (zini 468 501 σ))) := by
  refine zmeth (cd := kX9_init) [724] 1000 (Nat.le_of_ble_eq_true rfl) rfl okX9_init (by omega) (Nat.le_of_ble_eq_true rfl) ?_
  refine And.intro rfl (And.intro (by decide) (And.intro (by omega) ?_))
  refine And.intro (by omega) (And.intro rfl ?_)
  refine And.intro rfl (And.intro (by decide) (And.intro (by omega) ?_))
  refine And.intro (by omega) (And.intro rfl ?_)
  refine And.intro rfl (And.intro (by decide) (And.intro (by omega) ?_))
  refine And.intro (by omega) (And.intro rfl ?_)
  refine And.intro rfl (And.intro (by decide) (And.intro (by omega) ?_))
  refine And.intro (by omega) (And.intro rfl ?_)
  refine And.intro rfl (And.intro (by decide) (And.intro (by omega) ?_))
  refine And.intro (by omega) (And.intro rfl ?_)
  refine And.intro rfl (And.intro (by decide) (And.intro (by omega) ?_))
  refine And.intro (by omega) (And.intro rfl ?_)
  refine And.intro rfl (And.intro (by decide) (And.intro (by omega) ?_))
  refine And.intro (by omega) (And.intro rfl ?_)
  refine And.intro rfl (And.intro (by decide) (And.intro (by omega) ?_))
  refine And.intro (by omega) (And.intro rfl ?_)
  refine And.intro rfl (And.intro (by decide) (And.intro (by omega) ?_))
  refine And.intro (by omega) (And.intro rfl ?_)
  refine And.intro rfl (And.intro (by decide) (And.intro (by omega) ?_))
  refine And.intro (by omega) (And.intro rfl ?_)
  refine And.intro rfl (And.intro (by decide) (And.intro (by omega) ?_))
  refine And.intro (by omega) (And.intro rfl ?_)
  refine And.intro rfl (And.intro (by decide) (And.intro (by omega) ?_))
  refine And.intro (by omega) (And.intro rfl ?_)
  refine And.intro rfl (And.intro (by decide) (And.intro (by omega) ?_))
  refine And.intro (by omega) (And.intro rfl ?_)
  refine And.intro rfl (And.intro (by decide) (And.intro (by omega) ?_))
  refine And.intro (by omega) (And.intro rfl ?_)
  refine And.intro rfl (And.intro (by decide) (And.intro (by omega) ?_))
  refine And.intro (by omega) (And.intro rfl ?_)
  refine And.intro rfl (And.intro (by decide) (And.intro (by omega) ?_))
  refine And.intro (by omega) (And.intro rfl ?_)
  refine And.intro rfl (And.intro (by decide) (And.intro (by omega) ?_))
  refine And.intro (by omega) (And.intro rfl ?_)
  refine And.intro rfl (And.intro (by decide) (And.intro (by omega) ?_))
  refine And.intro (vp_in_iff.mpr (by decide)) ?_
  refine And.intro (vp_in_iff.mpr (by decide)) ?_
  refine And.intro (vp_in_iff.mpr (by decide)) ?_
  refine And.intro (vp_in_iff.mpr (by decide)) ?_
  refine And.intro (vp_in_iff.mpr (by decide)) ?_
  refine And.intro (vp_in_iff.mpr (by decide)) ?_
  refine And.intro (vp_in_iff.mpr (by decide)) ?_
  refine And.intro (vp_in_iff.mpr (by decide)) ?_
  refine And.intro (vp_in_iff.mpr (by decide)) ?_
  refine And.intro (vp_in_iff.mpr (by decide)) ?_
  refine And.intro (vp_in_iff.mpr (by decide)) ?_
  refine And.intro (vp_in_iff.mpr (by decide)) ?_
  refine And.intro (vp_in_iff.mpr (by decide)) ?_
  refine And.intro (vp_in_iff.mpr (by decide)) ?_
  refine And.intro (vp_in_iff.mpr (by decide)) ?_
  refine And.intro (vp_in_iff.mpr (by decide)) ?_
  refine And.intro (vp_in_iff.mpr (by decide)) ?_
  refine And.intro (vp_in_iff.mpr (by decide)) ?_
  refine And.intro (vp_in_iff.mpr (by decide)) ?_
  refine And.intro (vp_in_iff.mpr (by decide)) ?_
  refine And.intro (vp_in_iff.mpr (by decide)) ?_
  refine And.intro (vp_in_iff.mpr (by decide)) ?_
  refine And.intro (vp_in_iff.mpr (by decide)) ?_
  refine And.intro (vp_in_iff.mpr (by decide)) ?_
  refine And.intro (vp_in_iff.mpr (by decide)) ?_
  refine And.intro (vp_in_iff.mpr (by decide)) ?_
  refine And.intro (vp_in_iff.mpr (by decide)) ?_
  refine And.intro (vp_in_iff.mpr (by decide)) ?_
  refine And.intro (vp_in_iff.mpr (by decide)) ?_
  refine And.intro (vp_in_iff.mpr (by decide)) ?_
  refine And.intro (vp_in_iff.mpr (by decide)) ?_
  refine And.intro (vp_in_iff.mpr (by decide)) ?_
  refine And.intro (vp_in_iff.mpr (by decide)) ?_
  refine And.intro (vp_in_iff.mpr (by decide)) ?_
  refine And.intro (vp_in_iff.mpr (by decide)) ?_
  refine And.intro (vp_in_iff.mpr (by decide)) ?_
  refine And.intro (vp_in_iff.mpr (by decide)) ?_
  refine And.intro (vp_in_iff.mpr (by decide)) ?_
  refine And.intro (vp_in_iff.mpr (by decide)) ?_
  refine And.intro (vp_in_iff.mpr (by decide)) ?_
  refine And.intro (vp_in_iff.mpr (by decide)) ?_
  refine And.intro (vp_in_iff.mpr (by decide)) ?_
  refine And.intro (vp_in_iff.mpr (by decide)) ?_
  refine And.intro (vp_in_iff.mpr (by decide)) ?_
  refine And.intro (vp_in_iff.mpr (by decide)) ?_
  refine And.intro (vp_in_iff.mpr (by decide)) ?_
  refine And.intro (vp_in_iff.mpr (by decide)) ?_
  refine And.intro (vp_in_iff.mpr (by decide)) ?_
  refine And.intro (vp_in_iff.mpr (by decide)) ?_
  refine And.intro (vp_in_iff.mpr (by decide)) ?_
  refine And.intro (vp_in_iff.mpr (by decide)) ?_
  refine And.intro (vp_in_iff.mpr (by decide)) ?_
  refine And.intro (vp_in_iff.mpr (by decide)) ?_
  refine And.intro (vp_in_iff.mpr (by decide)) ?_
  refine And.intro (vp_in_iff.mpr (by decide)) ?_
  refine And.intro (vp_in_iff.mpr (by decide)) ?_
  refine And.intro (vp_in_iff.mpr (by decide)) ?_
  refine And.intro (vp_in_iff.mpr (by decide)) ?_
  refine And.intro (vp_in_iff.mpr (by decide)) ?_
  refine And.intro (vp_in_iff.mpr (by decide)) ?_
  refine And.intro (vp_in_iff.mpr (by decide)) ?_
  refine And.intro (vp_in_iff.mpr (by decide)) ?_
  refine And.intro (vp_in_iff.mpr (by decide)) ?_
  refine And.intro (vp_in_iff.mpr (by decide)) ?_
  refine And.intro (vp_in_iff.mpr (by decide)) ?_
  refine And.intro (vp_in_iff.mpr (by decide)) ?_
  refine And.intro (vp_in_iff.mpr (by decide)) ?_
  refine And.intro (vp_in_iff.mpr (by decide)) ?_
  refine And.intro (vp_in_iff.mpr (by decide)) ?_
  refine And.intro (vp_in_iff.mpr (by decide)) ?_
  refine And.intro (vp_in_iff.mpr (by decide)) ?_
  refine And.intro (vp_in_iff.mpr (by decide)) ?_
  refine And.intro (vp_in_iff.mpr (by decide)) ?_
  refine And.intro (vp_in_iff.mpr (by decide)) ?_
  refine And.intro (vp_in_iff.mpr (by decide)) ?_
  refine And.intro (vp_in_iff.mpr (by decide)) ?_
  refine And.intro (vp_in_iff.mpr (by decide)) ?_
  refine And.intro (vp_in_iff.mpr (by decide)) ?_
  refine And.intro (by omega) (And.intro rfl ?_)
  refine And.intro rfl (And.intro (by decide) (And.intro (by omega) ?_))
  refine And.intro (by omega) (And.intro rfl ?_)
  refine And.intro rfl (And.intro (by decide) (And.intro (by omega) ?_))
  refine And.intro (by omega) (And.intro rfl ?_)
  refine And.intro rfl (And.intro (by decide) (And.intro (by omega) ?_))
  refine And.intro (by omega) (And.intro rfl ?_)
  refine And.intro rfl (And.intro (by decide) (And.intro (by omega) ?_))
  refine And.intro (by omega) (And.intro rfl ?_)
  refine And.intro rfl (And.intro (by decide) (And.intro (by omega) ?_))
  refine And.intro (by omega) (And.intro rfl ?_)
  refine And.intro rfl (And.intro (by decide) (And.intro (by omega) ?_))
  refine And.intro (by omega) (And.intro rfl ?_)
  refine And.intro rfl (And.intro (by decide) (And.intro (by omega) ?_))
  refine And.intro (by omega) (And.intro rfl ?_)
  refine And.intro rfl (And.intro (by decide) (And.intro (by omega) ?_))
  refine And.intro (by omega) (And.intro rfl ?_)
  refine And.intro rfl (And.intro (by decide) (And.intro (by omega) ?_))
  refine And.intro (by omega) (And.intro rfl ?_)
  refine And.intro rfl (And.intro (by decide) (And.intro (by omega) ?_))
  refine And.intro (by omega) (And.intro rfl ?_)
  refine And.intro rfl (And.intro (by decide) (And.intro (by omega) ?_))
  refine And.intro (by omega) (And.intro rfl ?_)
  refine And.intro rfl (And.intro (by decide) (And.intro (by omega) ?_))
  refine And.intro (by omega) (And.intro rfl ?_)
  refine And.intro rfl (And.intro (by decide) (And.intro (by omega) ?_))
  refine And.intro (by omega) (And.intro rfl ?_)
  refine And.intro rfl (And.intro (by decide) (And.intro (by omega) ?_))
  refine And.intro (by omega) (And.intro rfl ?_)
  show zWp 20 zall 501 151 _ zlow 501 724 _ [] (zmk 468 zmC (zuR (zuL 486 iL 0 (zu0 (zmk 468 zmB (zuI (zmk 468 zmA (zu0 σ 468)) 468 28 (-1))) 486)) 468 29 487))
  rw [m_X9 σ]
  refine zWp.complete (cp1 := zall) (fun a ha => ?_) ?_
  · by_cases c : a < 468
    · left
      show true = Nat.blt a 468
      exact (Nat.ble_eq_true_of_le c).symm
    · right
      intro k hk
      obtain ⟨z1, z2⟩ := zk1_at ha hk
      rw [if_neg c] at z2
      rw [zini_at2, if_pos ⟨by omega, ha⟩]
      exact ⟨z1, z2⟩
  refine zvc_sound (cd := kX9_init) (cs := []) rfl okX9_init 1000 _ _ 724 (zseek kX9_init 724) _ _ _ zseek_sub ?_
  refine zCl.use (c_X9_clearBank 0 (zini 468 501 σ) (vp_in_iff.mpr (by decide))) (Nat.le_of_ble_eq_true rfl) ?_
  rintro _ σz ⟨rfl, hz0⟩
  subst σz
  refine zCl.use (c_X9_startAnew N (s_X9_clearBank 0 (zini 468 501 σ)) hp) (Nat.le_of_ble_eq_true rfl) ?_
  rintro _ σz ⟨rfl, hz0⟩
  subst σz
  exact And.intro rfl (And.intro rfl ⟨rfl, rfl⟩)
