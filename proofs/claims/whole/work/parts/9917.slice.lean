/-! the best slice -/
section IS
variable {q1 q2 B W n L F U U1 r p l N : Nat} {K : aK} {H tf rg : Nat → Nat} {gv : Nat → Nat → Int32} {σ σ1 σ2 τ τ1 τ2 : zS} {x1 x2 x3 x4 x5 x6 : Int32}
/-- one trial with another slice; the class's slice can be another one where no two tasks are left -/
theorem pr_trs {sl a b k ks : Nat} {kn : Int32} (h : IV q1 q2 B W n K L F H tf gv p l rg U σ τ) (hN : 200000 < N) {A : Nat → Int32} {D RS TP ST : Nat → Nat} {C : Nat → aC} {T M : Nat} (g : RX 0 1 0 (rg p) q1 B W n K L F H tf gv 0 0 0 T M σ τ A D RS TP ST C) (ah : AH n K tf gv ST C σ) (gz : ∀ v, n ≤ v → v < 4 → ST v = 0) (ha : a ≤ 99) (hb : b ≤ 99) (hT : T ≤ 1300000) (b8 : A 8 = nI a) (b9 : A 9 = nI b) (hsl : (sl = 1 ∧ ks = k) ∨ (sl = 0 ∧ ∃ t0, ∀ v, v < n → ¬ v = t0 → 2 ≤ ST v)) : p_X4_copyFrom 359 (rg p) N σ ∧ p_X4_foresee 359 390 N (s_X4_copyFrom 359 (rg p) N σ) ∧ p_X4_playBelow 359 q1 kn N (zuI (s_X4_foresee 359 390 N (s_X4_copyFrom 359 (rg p) N σ)) 359 6 (nI ks)) ∧ (zuI (s_X4_foresee 359 390 N (s_X4_copyFrom 359 (rg p) N σ)) 359 6 (nI ks)).2 0 5 = σ.2 0 5 ∧ p_X9_sliced (nI k) N τ ∧ ∃ σb τb c' d', s_X4_playBelow 359 q1 kn N (zuI (s_X4_foresee 359 390 N (s_X4_copyFrom 359 (rg p) N σ)) 359 6 (nI ks)) = σb ∧ r_X9_sliced (nI k) N τ = (nI d', τb) ∧ IV q1 q2 B W n K L F H tf gv p l rg U σb τb ∧ RX 0 1 0 (rg p) q1 B W n K L F H tf gv 0 0 0 T M σb τb A D RS TP ST C ∧ AH n K tf gv ST C σb ∧ zfr 359 384 σ σb ∧ zfr 468 501 τ τb ∧ f_X4_cost 359 σb = nI c' ∧ (T * a + M * b ≤ c' ∧ c' ≤ T * a + M * b + d' ∧ d' ≤ 13000000) ∧ (c' = T * a + M * b + d' ∨ kn ≤ nI c') := by
  obtain ⟨e1, e2, σa, e3, e4, e5⟩ := pr_fs h hN g ah gz
  obtain ⟨a1, a2, a3, a4⟩ := rf_aside (τ := τ) hN
  rw [e3]
  have e6 : RX 1 sl 0 359 q1 B W n K L F H tf gv 0 0 0 T M (zuI σa 359 6 (nI ks)) (zuI (s_X9_putAside N τ) 469 5 (nI k)) (upd A 5 (nI k)) D RS TP ST C := by
    rcases hsl with ⟨rfl, rfl⟩ | ⟨rfl, y⟩
    · exact pr_slice e4 (fun _ => rfl)
    · exact pr_slice (e4.sl0 y) (fun z => absurd z (by decide))
  have fs : zfr 359 384 σ (zuI σa 359 6 (nI ks)) := e5.uI (by omega)
  obtain ⟨t1, t2, t3, σb, τb, c', d', t4, t5, t6, t7, t8, t9, t10, t11, t12, t13, t14⟩ := pr_try (kn := kn) h hN g ah ha hb hT b8 b9 e6 ((show upd A 5 (nI k) _ = _ from if_neg (by decide)).trans b8) ((show upd A 5 (nI k) _ = _ from if_neg (by decide)).trans b9) fs (fun j hj => (gI_n (by omega)).trans (a2 j hj)) (fun q j z1 z2 => (gI_n (by omega)).trans (a3 _ _ z2)) a4
  exact ⟨e1, e2, t1, fs.at2 (by omega), ⟨a1, t2, t3⟩, σb, τb, c', d', t4, Prod.ext t12 t5, t6, t7, t8, t9, t10, t11, t13, t14⟩
theorem pr_slil (hN : 200000 < N) {A : Nat → Int32} {D RS TP ST : Nat → Nat} {C : Nat → aC} {T M a b : Nat} (gz : ∀ v, n ≤ v → v < 4 → ST v = 0) (ha : a ≤ 99) (hb : b ≤ 99) (hT : T ≤ 1300000) (hc0 : T * a + M * b ≤ 1300000000) (b8 : A 8 = nI a) (b9 : A 9 = nI b) : ∀ (m k : Nat) (b1 b2 v4 v3 : Int32) (σ τ : zS), k + m = 51 → IV q1 q2 B W n K L F H tf gv p l rg U σ τ → RX 0 1 0 (rg p) q1 B W n K L F H tf gv 0 0 0 T M σ τ A D RS TP ST C → AH n K tf gv ST C σ → BS 1 k (T * a + M * b) b1 b2 v4 v3 → ∀ z y, m < z → m < y → q_X8_bestSlice N z x1 (rg p) 50 b1 v4 (nI k) σ ∧ q_X9_bestSlice N y x1 b2 v3 (nI k) τ ∧ (l_X8_bestSlice N z x1 (rg p) 50 b1 v4 (nI k) σ).1 = (l_X9_bestSlice N y x1 b2 v3 (nI k) τ).1 ∧ IV q1 q2 B W n K L F H tf gv p l rg U (l_X8_bestSlice N z x1 (rg p) 50 b1 v4 (nI k) σ).2 (l_X9_bestSlice N y x1 b2 v3 (nI k) τ).2 ∧ zfr 0 468 σ (l_X8_bestSlice N z x1 (rg p) 50 b1 v4 (nI k) σ).2 ∧ zfr 468 501 τ (l_X9_bestSlice N y x1 b2 v3 (nI k) τ).2 := by
  intro m
  induction m with
  | zero =>
    intro k b1 b2 v4 v3 σ τ hk h g ah hbs z y hz hy
    obtain ⟨z, rfl⟩ : ∃ q, z = q + 1 := ⟨z - 1, by omega⟩
    obtain ⟨y, rfl⟩ : ∃ q, y = q + 1 := ⟨y - 1, by omega⟩
    have c : (50 : Int32) < nI k := nI_lt (a := 50) (by omega) (by omega)
    obtain ⟨s1, -⟩ := g.sums b8 b9
    rw [q_X8_bestSlice, q_X9_bestSlice, l_X8_bestSlice, l_X9_bestSlice, if_pos c, if_pos c, s1]
    rcases hbs with ⟨y0, -⟩ | ⟨d, y1, rfl, rfl, rfl⟩
    · omega
    · by_cases cx : x1 = 0
      · rw [if_pos cx, if_pos cx]
        exact ⟨fun q => absurd c q, fun q => absurd c q, rfl, h, zfr.rf, zfr.rf⟩
      · rw [if_neg cx, if_neg cx]
        refine ⟨fun q => absurd c q, fun q => absurd c q, ?_, h, zfr.rf, zfr.rf⟩
        show nI (T * a + M * b + d) - nI (T * a + M * b) = nI d
        rw [pk_sub (by omega)]
        congr 1
        omega
  | succ m ih =>
    intro k b1 b2 v4 v3 σ τ hk h g ah hbs z y hz hy
    obtain ⟨z, rfl⟩ : ∃ q, z = q + 1 := ⟨z - 1, by omega⟩
    obtain ⟨y, rfl⟩ : ∃ q, y = q + 1 := ⟨y - 1, by omega⟩
    have c : ¬ (50 : Int32) < nI k := nI_nlt (b := k) (a := 50) (by omega) (by omega)
    have hpr := h.pr
    obtain ⟨e1, e2, t1, n5, pr, σb, τb, c', d', t4, er, t6, t7, t8, t9, t10, t11, t13, t14⟩ := pr_trs (sl := 1) (k := k) (ks := k) (kn := v4) h hN g ah gz ha hb hT b8 b9 (Or.inl ⟨rfl, rfl⟩)
    have u3 : u_X8_bestSlice_h0_3 N x1 (rg p) 50 b1 v4 (nI k) σ = zuI (s_X4_foresee 359 390 N (s_X4_copyFrom 359 (rg p) N σ)) 359 6 (nI k) := rfl
    have u4 : u_X8_bestSlice_h0_4 N x1 (rg p) 50 b1 v4 (nI k) σ = σb := by
      unfold u_X8_bestSlice_h0_4
      rw [u3, n5, hpr.1, t4]
    have v1 : u_X9_bestSlice_h0_1 N x1 b2 v3 (nI k) τ = τb := by
      unfold u_X9_bestSlice_h0_1
      rw [er]
    have p5 : (σ.2 0 5 ≠ 0 ∧ zlay (σ.2 0 5 - 1) = (2, 16)) := hpr.2.1
    rw [q_X8_bestSlice, q_X9_bestSlice, l_X8_bestSlice, l_X9_bestSlice, if_neg c, if_neg c, u3, u4, er, v1, t11, nI_1, n5, hpr.1]
    rw [hpr.1] at p5
    rcases hbs.step (x := nI k) hc0 t13 t14 with ⟨y1, y2, y3⟩ | ⟨y1, y2, y3⟩
    · obtain ⟨i1, i2, i3, i4, i5, i6⟩ := ih (k + 1) b1 b2 v4 v3 σb τb (by omega) t6 t7 t8 y3 z y (by omega) (by omega)
      rw [if_pos y1, if_neg y2]
      exact ⟨fun _ => ⟨e1, e2, p5, t1, fun _ => i1, fun q => absurd y1 q⟩, fun _ => ⟨pr, fun q => absurd q y2, fun _ => i2⟩, i3, i4, (t9.wk (by omega)).tr i5, t10.tr i6⟩
    · obtain ⟨i1, i2, i3, i4, i5, i6⟩ := ih (k + 1) (nI k) (nI k) (nI c') (nI d') σb τb (by omega) t6 t7 t8 y3 z y (by omega) (by omega)
      rw [if_neg y1, if_pos y2]
      exact ⟨fun _ => ⟨e1, e2, p5, t1, fun q => absurd q y1, fun _ => i1⟩, fun _ => ⟨pr, fun _ => i2, fun q => absurd y2 q⟩, i3, i4, (t9.wk (by omega)).tr i5, t10.tr i6⟩
/-- with one task left all slices come to the same -/
theorem rf_slil (hN : 200000 < N) {A : Nat → Int32} {D RS TP ST : Nat → Nat} {C : Nat → aC} {T M a b d : Nat} (gz : ∀ v, n ≤ v → v < 4 → ST v = 0) (ha : a ≤ 99) (hb : b ≤ 99) (hT : T ≤ 1300000) (hc0 : T * a + M * b ≤ 1300000000) (b8 : A 8 = nI a) (b9 : A 9 = nI b) (h1 : ∃ t0, ∀ v, v < n → ¬ v = t0 → 2 ≤ ST v) (hcl : CL σ) (ah : AH n K tf gv ST C σ) (d0 : d ≤ 13000000) (hd : f_X4_cost 359 (s_X4_playBelow 359 q1 2147483647 N (zuI (s_X4_foresee 359 390 N (s_X4_copyFrom 359 (rg p) N σ)) 359 6 (nI 1))) = nI (T * a + M * b + d)) : ∀ (m k : Nat) (b2 v3 : Int32) (τ : zS), k + m = 51 → IV q1 q2 B W n K L F H tf gv p l rg U σ τ → RX 0 1 0 (rg p) q1 B W n K L F H tf gv 0 0 0 T M σ τ A D RS TP ST C → ((k = 1 ∧ v3 = 536870912) ∨ (b2 = 1 ∧ v3 = nI d)) → ∀ y, m < y → q_X9_bestSlice N y x1 b2 v3 (nI k) τ ∧ (l_X9_bestSlice N y x1 b2 v3 (nI k) τ).1 = (if x1 = 0 then 1 else nI d) ∧ IV q1 q2 B W n K L F H tf gv p l rg U σ (l_X9_bestSlice N y x1 b2 v3 (nI k) τ).2 ∧ zfr 468 501 τ (l_X9_bestSlice N y x1 b2 v3 (nI k) τ).2 := by
  intro m
  induction m with
  | zero =>
    intro k b2 v3 τ hk h g hbs y hy
    obtain ⟨y, rfl⟩ : ∃ q, y = q + 1 := ⟨y - 1, by omega⟩
    have c : (50 : Int32) < nI k := nI_lt (a := 50) (by omega) (by omega)
    rw [q_X9_bestSlice, l_X9_bestSlice, if_pos c]
    rcases hbs with ⟨y0, -⟩ | ⟨rfl, rfl⟩
    · omega
    · by_cases cx : x1 = 0
      · rw [if_pos cx, if_pos cx]
        exact ⟨fun q => absurd c q, rfl, h, zfr.rf⟩
      · rw [if_neg cx, if_neg cx]
        exact ⟨fun q => absurd c q, rfl, h, zfr.rf⟩
  | succ m ih =>
    intro k b2 v3 τ hk h g hbs y hy
    obtain ⟨y, rfl⟩ : ∃ q, y = q + 1 := ⟨y - 1, by omega⟩
    have c : ¬ (50 : Int32) < nI k := nI_nlt (b := k) (a := 50) (by omega) (by omega)
    obtain ⟨-, -, -, -, pr, σb, τb, c', d', t4, er, t6, t7, t8, t9, t10, t11, t13, t14⟩ := pr_trs (sl := 0) (k := k) (ks := 1) (kn := 2147483647) h hN g ah gz ha hb hT b8 b9 (Or.inr ⟨rfl, h1⟩)
    obtain ⟨-, -, -, -, -, -, -, -, -, -, -, ⟨cc, cc1, cc2⟩, -⟩ := h.get
    have hq := h.pr.2.2
    have cb : ¬ (2147483647 : Int32) ≤ nI c' := nI_ge (b := 2147483647) (by omega) (by decide)
    have ec : c' = T * a + M * b + d' := by
      rcases t14 with y | y
      · exact y
      · exact absurd y cb
    have ed : d' = d := by
      rw [t4, t11] at hd
      have := (nI_eq (by omega) (by omega)).mp hd
      omega
    subst ed
    have back : zfr 359 384 σb σ := fun q hq1 => ⟨(t9 q hq1).1.symm, (t9 q hq1).2.symm⟩
    have iv : IV q1 q2 B W n K L F H tf gv p l rg U σ τb := t6.scr (fun q hq1 => back q (by have : ¬ ((359 ≤ q ∧ q < 394) ∨ (444 ≤ q ∧ q < 468)) := hq1; omega)) hcl (fun _ _ _ => rfl)
    have rx : RX 0 1 0 (rg p) q1 B W n K L F H tf gv 0 0 0 T M σ τb A D RS TP ST C := t7.sig (fun q j z => back.at (by omega)) (fun q j z5 z6 => back.at2 (by omega))
    have v1 : u_X9_bestSlice_h0_1 N x1 b2 v3 (nI k) τ = τb := by
      unfold u_X9_bestSlice_h0_1
      rw [er]
    rw [q_X9_bestSlice, l_X9_bestSlice, if_neg c, er, v1, nI_1]
    rcases hbs with ⟨rfl, rfl⟩ | ⟨rfl, rfl⟩
    · have y2 : nI d' < (536870912 : Int32) := nI_lt (b := 536870912) (by omega) (by decide)
      obtain ⟨i2, i3, i4, i6⟩ := ih (1 + 1) 1 (nI d') τb (by omega) iv rx (Or.inr ⟨rfl, rfl⟩) y (by omega)
      rw [if_pos y2]
      exact ⟨fun _ => ⟨pr, fun _ => i2, fun q => absurd y2 q⟩, i3, i4, t10.tr i6⟩
    · have y2 : ¬ nI d' < nI d' := nI_nlt (Nat.le_refl _) (by omega)
      obtain ⟨i2, i3, i4, i6⟩ := ih (k + 1) 1 (nI d') τb (by omega) iv rx (Or.inr ⟨rfl, rfl⟩) y (by omega)
      rw [if_neg y2]
      exact ⟨fun _ => ⟨pr, fun q => absurd q y2, fun _ => i2⟩, i3, i4, t10.tr i6⟩
/-- how many tasks are left -/
def tlc (ST : Nat → Nat) : Nat → Nat → Nat
  | 0, _ => 0
  | m + 1, k => (if ST k ≤ 1 then 1 else 0) + tlc ST m (k + 1)
theorem tlc_0 {ST : Nat → Nat} : ∀ (m k : Nat), tlc ST m k = 0 → ∀ v, k ≤ v → v < k + m → 2 ≤ ST v := by
  intro m
  induction m with
  | zero => intro k _ v h1 h2; omega
  | succ m ih =>
    intro k h v h1 h2
    have h : (if ST k ≤ 1 then 1 else 0) + tlc ST m (k + 1) = 0 := h
    by_cases c : ST k ≤ 1
    · rw [if_pos c] at h
      omega
    · by_cases e : v = k
      · rw [e]; omega
      · exact ih (k + 1) (by omega) v (by omega) (by omega)
theorem tlc_1 {ST : Nat → Nat} : ∀ (m k : Nat), tlc ST m k ≤ 1 → ∃ t0, ∀ v, k ≤ v → v < k + m → ¬ v = t0 → 2 ≤ ST v := by
  intro m
  induction m with
  | zero => intro k _; exact ⟨0, fun v h1 h2 => by omega⟩
  | succ m ih =>
    intro k h
    have h : (if ST k ≤ 1 then 1 else 0) + tlc ST m (k + 1) ≤ 1 := h
    by_cases c : ST k ≤ 1
    · rw [if_pos c] at h
      exact ⟨k, fun v h1 h2 h3 => tlc_0 m (k + 1) (by omega) v (by omega) (by omega)⟩
    · rw [if_neg c] at h
      obtain ⟨t0, ht⟩ := ih (k + 1) (by omega)
      refine ⟨t0, fun v h1 h2 h3 => ?_⟩
      by_cases e : v = k
      · rw [e]; omega
      · exact ht v (by omega) (by omega) h3
theorem cl_left {A : Nat → Int32} {D RS TP ST : Nat → Nat} {C : Nat → aC} {T M : Nat} (g : RX 0 1 0 r q1 B W n K L F H tf gv 0 0 0 T M σ τ A D RS TP ST C) : ∀ (m k w : Nat), k + m = n → ∀ z, m < z → q_X4_tasksLeft r N z (nI w) (nI k) σ ∧ l_X4_tasksLeft r N z (nI w) (nI k) σ = nI (w + tlc ST m k) := by
  have n4 := g.2.2.2.2.2.2.2.2.2.2.1.2.2.2.1
  have hs := g.2.1.2.1
  have z0 : ∀ x : Int32, x + 0 = x := fun x => by simp
  intro m
  induction m with
  | zero =>
    intro k w hk z hz
    obtain ⟨z, rfl⟩ : ∃ q, z = q + 1 := ⟨z - 1, by omega⟩
    have c : nI n ≤ nI k := nI_le (by omega) (by omega)
    rw [q_X4_tasksLeft, l_X4_tasksLeft, hs, if_pos c]
    exact ⟨fun q => absurd c q, rfl⟩
  | succ m ih =>
    intro k w hk z hz
    obtain ⟨z, rfl⟩ : ∃ q, z = q + 1 := ⟨z - 1, by omega⟩
    have c : ¬ nI n ≤ nI k := nI_ge (by omega) (by omega)
    have k4 : k < 4 := by omega
    obtain ⟨w1, w2, -⟩ := g.2.2.2.2.2.2.2.1.2.1 k k4
    have s1 : σ.1 (r + 5 + 5 * k) 1 = nI (ST k) := by
      rcases g.2.2.2.2.2.2.2.2.2.2.2.2.2.1 k k4 with y | y
      · exact y
      · exact absurd y.1 (by decide)
    have tk := tk_eq g.2.1.2.2 k4
    have pc := tk_p g.1.1 g.2.1.2.2 k4
    have eo : f_X4_isOver r (nI k) σ = if ST k ≤ 1 then 0 else 1 := by
      unfold f_X4_isOver
      rw [tk, s1]
      rcases (show ST k = 0 ∨ ST k = 1 ∨ ST k = 2 ∨ ST k = 3 by omega) with e | e | e | e <;> rw [e] <;> decide
    rw [q_X4_tasksLeft, l_X4_tasksLeft, hs, if_neg c, eo, nI_1, nI_1, z0]
    show _ ∧ _ = nI (w + ((if ST k ≤ 1 then 1 else 0) + tlc ST m (k + 1)))
    by_cases c1 : ST k ≤ 1
    · obtain ⟨i1, i2⟩ := ih (k + 1) (w + 1) (by omega) z (by omega)
      rw [if_pos c1, if_pos rfl, if_pos c1, i2]
      exact ⟨fun _ => ⟨pc, fun _ => i1, fun q => absurd rfl q⟩, by rw [Nat.add_assoc]⟩
    · obtain ⟨i1, i2⟩ := ih (k + 1) w (by omega) z (by omega)
      have n10 : ¬ (1 : Int32) = 0 := by decide
      rw [if_neg c1, if_neg n10, if_neg c1, i2]
      exact ⟨fun _ => ⟨pc, fun q => absurd q n10, fun _ => i1⟩, by rw [Nat.zero_add]⟩
theorem tlc_le {ST : Nat → Nat} : ∀ (m k : Nat), tlc ST m k ≤ m := by
  intro m
  induction m with
  | zero => intro k; exact Nat.le_refl _
  | succ m ih =>
    intro k
    have := ih (k + 1)
    show (if ST k ≤ 1 then 1 else 0) + tlc ST m (k + 1) ≤ m + 1
    by_cases c : ST k ≤ 1
    · rw [if_pos c]; omega
    · rw [if_neg c]; omega
theorem pr_bests (h : Inv U σ τ) (hN : 200000 < N) (hU : U ≤ 300000) : PR2 U (p_X8_bestSlice x1 N σ) (p_X9_bestSlice x1 N τ) (r_X8_bestSlice x1 N σ) (r_X9_bestSlice x1 N τ) σ τ := by
  have hI := h
  obtain ⟨q1, q2, B, W, n, K, L, F, H, tf, gv, p, l, rg, h⟩ := h
  by_cases c0 : x1 < 0
  · refine pr_same hI (Nat.le_refl _) (fun y => absurd c0 y) (fun y => absurd (isIn_lo c0) y) (x := -1) (y := -1) ?_ ?_ rfl
    · unfold r_X8_bestSlice
      rw [if_pos c0]
    · unfold r_X9_bestSlice
      rw [isIn_lo c0, if_pos rfl]
  · by_cases c1 : 1 < x1
    · refine pr_same hI (Nat.le_refl _) (fun _ y => absurd y (Int32.not_le.mpr c1)) (fun y => absurd (isIn_hi c1) y) (x := -1) (y := -1) ?_ ?_ rfl
      · unfold r_X8_bestSlice
        rw [if_neg c0, if_neg (Int32.not_le.mpr c1)]
      · unfold r_X9_bestSlice
        rw [isIn_hi c1, if_pos rfl]
    · have ei : f_X9_isIn x1 0 1 = 1 := isIn_in c0 c1
      have hpr := h.pr
      obtain ⟨A, D, RS, TP, ST, C, T, M, a, b, g1, g2, g3, gz, ha, hb, hT, hc, b8, b9, i1, σ1, i2, i3, i4, i5, i6⟩ := pr_now (N := N) h hU hN
      have n4 := g3.2.2.2.2.2.2.2.2.2.2.1.2.2.2.1
      obtain ⟨l1, l2⟩ := cl_left (N := N) g3 n 0 0 (by omega) N (by omega)
      have tl := tlc_le (ST := ST) n 0
      have el : f_X4_tasksLeft (rg p) N σ = nI (tlc ST n 0) := by
        have : f_X4_tasksLeft (rg p) N σ = l_X4_tasksLeft (rg p) N N (nI 0) (nI 0) σ := rfl
        rw [this, l2, Nat.zero_add]
      have er : r_X9_bestSlice x1 N τ = l_X9_bestSlice N N x1 0 536870912 (nI 1) τ := by
        unfold r_X9_bestSlice
        rw [ei, if_neg (by decide)]
        rfl
      have u1 : u_X8_bestSlice_1 x1 N σ = σ1 := i2
      have u2 : u_X8_bestSlice_2 x1 N σ = σ1 := i2
      by_cases cl : tlc ST n 0 ≤ 1
      · have cl' : nI (tlc ST n 0) ≤ 1 := nI_le (b := 1) cl (by decide)
        obtain ⟨t0, ht0⟩ := tlc_1 n 0 cl
        have h1 : ∃ t0, ∀ v, v < n → ¬ v = t0 → 2 ≤ ST v := ⟨t0, fun v hv => ht0 v (by omega) (by omega)⟩
        obtain ⟨e1, e2, t1, n5, -, σb, τb, c', d', t4, -, t6, t7, t8, t9, t10, t11, t13, t14⟩ := pr_trs (sl := 0) (k := 1) (ks := 1) (kn := 2147483647) i3 hN i4 i5 gz ha hb hT b8 b9 (Or.inr ⟨rfl, h1⟩)
        have cb : ¬ (2147483647 : Int32) ≤ nI c' := nI_ge (b := 2147483647) (by omega) (by decide)
        have ec : c' = T * a + M * b + d' := by
          rcases t14 with y | y
          · exact y
          · exact absurd y cb
        obtain ⟨k1, k2, k3, k4⟩ := rf_slil (N := N) (x1 := x1) (d := d') hN gz ha hb hT hc b8 b9 h1 i3.2.2.2.2.2.2.2.2.1 i5 t13.2.2 (by rw [t4, t11, ec]) 50 1 0 536870912 τ (by omega) i3 i4 (Or.inl ⟨rfl, rfl⟩) N (by omega)
        have iv : IV q1 q2 B W n K L F H tf gv p l rg U σb (l_X9_bestSlice N N x1 0 536870912 (nI 1) τ).2 := k3.scr (fun q hq1 => t9 q (by have : ¬ ((359 ≤ q ∧ q < 394) ∨ (444 ≤ q ∧ q < 468)) := hq1; omega)) t6.2.2.2.2.2.2.2.2.1 (fun _ _ _ => rfl)
        obtain ⟨N1, hN1⟩ : ∃ w, N = w + 1 + 1 := ⟨N - 2, by omega⟩
        have u3 : u_X8_bestSlice_h0_3 N x1 (rg p) 1 1 2147483647 1 σ1 = zuI (s_X4_foresee 359 390 N (s_X4_copyFrom 359 (rg p) N σ1)) 359 6 (nI 1) := rfl
        have u4 : u_X8_bestSlice_h0_4 N x1 (rg p) 1 1 2147483647 1 σ1 = σb := by
          unfold u_X8_bestSlice_h0_4
          rw [u3, n5, i3.pr.1, t4]
        obtain ⟨s1, -⟩ := t7.sums b8 b9
        have c11 : ¬ (1 : Int32) < 1 := by decide
        have c12 : (1 : Int32) < 1 + 1 := by decide
        have el2 : l_X8_bestSlice N (N1 + 1 + 1) x1 (rg p) 1 1 2147483647 1 σ1 = ((if x1 = 0 then 1 else nI d'), σb) := by
          rw [l_X8_bestSlice, if_neg c11, u4, t11, if_neg cb, l_X8_bestSlice, if_pos c12, s1, ec, pk_sub (by omega), show T * a + M * b + d' - (T * a + M * b) = d' by omega]
          by_cases cx : x1 = 0
          · rw [if_pos cx, if_pos cx]
          · rw [if_neg cx, if_neg cx]
        have pq : q_X8_bestSlice N (N1 + 1 + 1) x1 (rg p) 1 1 2147483647 1 σ1 := by
          rw [q_X8_bestSlice, u4, t11, u3, n5, i3.pr.1]
          refine fun _ => ⟨e1, e2, by rw [← i3.pr.1]; exact i3.pr.2.1, t1, fun q => absurd q cb, fun _ => ?_⟩
          rw [q_X8_bestSlice]
          exact fun q => absurd c12 q
        have ecl : r_X8_bestSlice x1 N σ = ((if x1 = 0 then 1 else nI d'), σb) := by
          unfold r_X8_bestSlice
          rw [if_neg c0, if_pos (Int32.not_lt.mp c1), g1, el, if_pos cl', u1, ← el2, ← hN1]
        unfold PR2
        rw [ecl, er]
        refine ⟨fun _ _ => ⟨g2, ?_, ?_⟩, fun _ => k1, k2.symm, ⟨q1, q2, B, W, n, K, L, F, H, tf, gv, p, l, rg, iv⟩, (i6.wk (by omega)).tr (t9.wk (by omega)), k4⟩
        · rw [g1]; exact l1
        · rw [g1, el, u1]
          refine ⟨fun _ => ⟨i1, ?_⟩, fun q => absurd cl' q⟩
          rw [← hN1] at pq
          exact pq
      · have cl' : ¬ nI (tlc ST n 0) ≤ 1 := nI_ge (a := 1) (by omega) (by omega)
        obtain ⟨k1, k2, k3, k4, k5, k6⟩ := pr_slil (N := N) (x1 := x1) hN gz ha hb hT hc b8 b9 50 1 1 0 2147483647 536870912 σ1 τ (by omega) i3 i4 i5 (Or.inl ⟨rfl, rfl, rfl⟩) N N (by omega) (by omega)
        have ecl : r_X8_bestSlice x1 N σ = l_X8_bestSlice N N x1 (rg p) 50 1 2147483647 (nI 1) σ1 := by
          unfold r_X8_bestSlice
          rw [if_neg c0, if_pos (Int32.not_lt.mp c1), g1, el, if_neg cl', u2]
          rfl
        unfold PR2
        rw [ecl, er]
        refine ⟨fun _ _ => ⟨g2, ?_, ?_⟩, fun _ => k2, k3, ⟨q1, q2, B, W, n, K, L, F, H, tf, gv, p, l, rg, k4⟩, (i6.wk (by omega)).tr k5, k6⟩
        · rw [g1]; exact l1
        · rw [g1, el, u2]
          exact ⟨fun q => absurd q cl', fun _ => ⟨i1, k1⟩⟩
end IS
