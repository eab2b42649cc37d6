/-! plain recursion: the class's way, the reference's run, told by aIt -/
def dp (K : aK) (c : aC) (i : Nat) : Nat := (aIt K i c).1
theorem aIt_s {K : aK} : ∀ (k : Nat) (c : aC), aIt K (k + 1) c = aStp K (aIt K k c) := by
  intro k
  induction k with
  | zero => intro c; rfl
  | succ k ih =>
    intro c
    show aIt K (k + 1) (aStp K c) = _
    rw [ih]
    rfl
def mxJ (K : aK) (c : aC) (m0 : Int32) : Nat → Int32
  | 0 => m0
  | k + 1 => mxI (mxJ K c m0 k) (nI (dp K c (k + 1)))
def aSelf (K : aK) (x : Int32) (c : aC) : Int32 := if K.1 (aNext K c).1 = 13 then 0 else if c.1 < 60 then (if K.2.1 (aNext K c).1 = x then 1 else 0) else 0
def slf (K : aK) (x : Int32) (c : aC) (s0 : Int32) : Nat → Int32
  | 0 => s0
  | k + 1 => slf K x c s0 k + aSelf K x (aIt K k c)
def aRes (K : aK) (c : aC) : Int32 := (aNext K c).2.1 ((aNext K c).2.2 - 1)
theorem stp_ty {K : aK} {L F : Nat} {H : Nat → Nat} {c : aC} (hw : wfK K L F H) (h : tyC L H c) : (aStp K c).1 ≤ 61 ∧ (1 ≤ (aStp K c).1 → (aStp K c).1 ≤ 60 → tyC L H (aStp K c)) ∧ ((K.1 (aNext K c).1 = 13 ∧ aStp K c = aLeave c (aNext K c) ∧ (aStp K c).1 = c.1 - 1) ∨ (K.1 (aNext K c).1 = 8 ∧ ∃ f, f < F ∧ K.2.1 (aNext K c).1 = nI f ∧ ((c.1 < 60 ∧ aStp K c = aEnter K c (aNext K c) f ∧ (aStp K c).1 = c.1 + 1) ∨ (c.1 = 60 ∧ aStp K c = (61, c.2) ∧ (aStp K c).1 = 61)))) := by
  have h1 := h.1
  rcases (ty_top hw h).2.2.2 with h8 | h13
  · have gI := (hw.2.2.2 _ (ty_top hw h).2.2.1.1).2
    unfold wfI at gI
    rw [h8] at gI
    obtain ⟨-, f, f1, f2, f3, f4⟩ := gI
    by_cases c60 : c.1 < 60
    · have e := stp_call h8 f2 f1 hw c60
      have e1 : (aStp K c).1 = c.1 + 1 := by rw [e]; rfl
      refine ⟨by omega, fun _ _ => ?_, Or.inr ⟨h8, f, f1, f2, Or.inl ⟨c60, e, e1⟩⟩⟩
      rw [e]
      exact (ty_enter hw h h8 f1 f2 c60).1
    · have e := stp_fail h8 c60
      have e1 : (aStp K c).1 = 61 := by rw [e]
      exact ⟨by omega, fun _ z => by omega, Or.inr ⟨h8, f, f1, f2, Or.inr ⟨by omega, e, e1⟩⟩⟩
  · have e := stp_ret h13
    have e1 : (aStp K c).1 = c.1 - 1 := by rw [e]; rfl
    refine ⟨by omega, fun z _ => ?_, Or.inl ⟨h13, e, e1⟩⟩
    rw [e]
    exact ty_leave hw h h13 (by omega)
/-- the class's end of a step -/
def tl1 (o : Nat) (σ : zS) : zS := s_X8_put 3000 (o + 5) (σ.1 o 2) (σ.1 (o + 1) 0) σ
def tl2 (o : Nat) (σ : zS) : zS := zuI (tl1 o σ) o 3 (if ((tl1 o σ).1 o 3) < ((tl1 o σ).1 (o + 1) 0) then ((tl1 o σ).1 (o + 1) 0) else ((tl1 o σ).1 o 3))
def tl3 (o : Nat) (σ : zS) : zS := zuI (tl2 o σ) o 2 (((tl2 o σ).1 o 2) + 1)
theorem tl_eq {o e d : Nat} {σ : zS} (he : e < 3000) (h1 : σ.1 o 2 = nI e) (h2 : σ.1 (o + 1) 0 = nI d) : tl3 o σ = zuI (zuI (zuI σ (o + 5) e (nI d)) o 3 (mxI (σ.1 o 3) (nI d))) o 2 (nI (e + 1)) := by
  have e1 : tl1 o σ = zuI σ (o + 5) e (nI d) := by
    unfold tl1
    rw [h1, h2, put_i he (by decide)]
  unfold tl3 tl2
  rw [e1, gI_n (by omega), gI_n (by omega), gI_n (by omega), gI_n (by omega), h1, h2, nI_1]
  rfl
def CFo (K : aK) (L F : Nat) (H : Nat → Nat) (c0 : aC) (x m0 s0 : Int32) (e0 o q1 k : Nat) (σ : zS) : Prop := CK σ q1 K L F ∧ σ.2 (o + 1) 4 = 1000001 ∧ σ.1 o 2 = nI (e0 + k) ∧ σ.1 o 3 = mxJ K c0 m0 k ∧ σ.1 o 4 = slf K x c0 s0 k ∧ σ.1 (o + 1) 0 = nI (dp K c0 k) ∧ dp K c0 k ≤ 61 ∧ (1 ≤ dp K c0 k → dp K c0 k ≤ 60 → tyC L H (aIt K k c0) ∧ CC σ (o + 1) (aIt K k c0)) ∧ (1 ≤ k → dp K c0 k = 0 → σ.1 (o + 1) 3 = aRes K (aIt K (k - 1) c0)) ∧ ∀ i, i < k → σ.1 (o + 5) (e0 + i) = nI (dp K c0 (i + 1))
theorem cl_follow {K : aK} {L F e0 o q1 N M : Nat} {H : Nat → Nat} {c0 : aC} {x m0 s0 : Int32} (hw : wfK K L F H) (hN : 500 < N) (hM : M ≤ 3000) (hq : q1 + 7 ≤ o ∨ o + 6 ≤ q1) : ∀ (m k : Nat) (σ : zS), e0 + k + m = M → CFo K L F H c0 x m0 s0 e0 o q1 k σ → ∀ z, m < z → q_X7_follow o q1 N z x (nI M) σ ∧ zfr o (o + 6) σ (l_X7_follow o q1 N z x (nI M) σ) ∧ (l_X7_follow o q1 N z x (nI M) σ).2 = σ.2 ∧ (∀ i, i < e0 → (l_X7_follow o q1 N z x (nI M) σ).1 (o + 5) i = σ.1 (o + 5) i) ∧ ∃ k', k ≤ k' ∧ k' ≤ k + m ∧ (∀ i, k ≤ i → i < k' → 1 ≤ dp K c0 i ∧ dp K c0 i ≤ 60) ∧ (k' = k + m ∨ dp K c0 k' = 0 ∨ dp K c0 k' = 61) ∧ CFo K L F H c0 x m0 s0 e0 o q1 k' (l_X7_follow o q1 N z x (nI M) σ) := by
  intro m
  induction m with
  | zero =>
    intro k σ hk h z hz
    obtain ⟨z, rfl⟩ : ∃ y, z = y + 1 := ⟨z - 1, by omega⟩
    have c : nI M ≤ σ.1 o 2 := by rw [h.2.2.1]; exact nI_le (by omega) (by omega)
    rw [q_X7_follow, l_X7_follow, if_pos c]
    exact ⟨fun y => absurd c y, zfr.rf, rfl, fun _ _ => rfl, k, Nat.le_refl _, Nat.le_refl _, fun i h1 h2 => absurd h1 (by omega), Or.inl rfl, h⟩
  | succ m ih =>
    intro k σ hk h z hz
    obtain ⟨z, rfl⟩ : ∃ y, z = y + 1 := ⟨z - 1, by omega⟩
    have hx := h
    obtain ⟨g1, g2, g3, g4, g5, g6, g7, g8, g9, g10⟩ := h
    have c : ¬ nI M ≤ σ.1 o 2 := by rw [g3]; exact nI_ge (by omega) (by omega)
    by_cases d0 : dp K c0 k = 0
    · have c1 : σ.1 (o + 1) 0 ≤ 0 := by rw [g6, d0]; decide
      rw [q_X7_follow, l_X7_follow, if_neg c, if_pos c1]
      exact ⟨fun _ y => absurd c1 y, zfr.rf, rfl, fun _ _ => rfl, k, Nat.le_refl _, by omega, fun i h1 h2 => absurd h1 (by omega), Or.inr (Or.inl d0), hx⟩
    · have c1 : ¬ σ.1 (o + 1) 0 ≤ 0 := by rw [g6]; exact nI_nle (by omega) (by omega)
      by_cases d61 : dp K c0 k = 61
      · have c2 : 60 < σ.1 (o + 1) 0 := by rw [g6, d61]; decide
        rw [q_X7_follow, l_X7_follow, if_neg c, if_neg c1, if_pos c2]
        exact ⟨fun _ _ y => absurd c2 y, zfr.rf, rfl, fun _ _ => rfl, k, Nat.le_refl _, by omega, fun i h1 h2 => absurd h1 (by omega), Or.inr (Or.inr d61), hx⟩
      · have c2 : ¬ 60 < σ.1 (o + 1) 0 := by rw [g6]; exact nI_nlt (b := dp K c0 k) (a := 60) (by omega) (by omega)
        obtain ⟨ty, cc⟩ := g8 (by omega) (by omega)
        have es : aIt K (k + 1) c0 = aStp K (aIt K k c0) := aIt_s k c0
        have ed : dp K c0 (k + 1) = (aStp K (aIt K k c0)).1 := by unfold dp; rw [es]
        obtain ⟨r1, r2, r3, r4⟩ := cls_reach_C (a := o + 1) hw (by omega) (show 400 < N by omega) g1 cc ty g2
        have hd1 : (aIt K k c0).1 = dp K c0 k := rfl
        have hh6 : (aNext K (aIt K k c0)).2.2 ≤ 1680 := by
          have t1 := (ty_top hw ty).1
          have t2 := (ty_top hw ty).2.2.1
          have t3 := (hw.2.2.2 _ t2.1).1
          have t4 := t2.2
          omega
        have fo : ∀ j, (r_X0_reach (o + 1) q1 N σ).2.1 o j = σ.1 o j := fun j => r4.2 _ _ (fun y => by unfold sC at y; omega)
        have fq : ∀ q j, q1 ≤ q → q < q1 + 7 → (r_X0_reach (o + 1) q1 N σ).2.1 q j = σ.1 q j := fun q j y1 y2 => r4.2 _ _ (fun y => by unfold sC at y; omega)
        have e1 : u_X7_follow_h0_1 o q1 N x (nI M) σ = (r_X0_reach (o + 1) q1 N σ).2 := rfl
        have fz1 : zfr o (o + 6) σ (r_X0_reach (o + 1) q1 N σ).2 := fun q hq1 => ⟨funext fun j => r4.2 _ _ (fun y => by unfold sC at y; omega), by rw [r4.1]⟩
        have f5 : ∀ j, (r_X0_reach (o + 1) q1 N σ).2.1 (o + 5) j = σ.1 (o + 5) j := fun j => r4.2 _ _ (fun y => by unfold sC at y; omega)
        have rr := r4.1
        -- what is common to all steps
        have fin : ∀ (σ2 : zS) (s1 : Int32), CK σ2 q1 K L F → σ2.2 = σ.2 → σ2.1 o 2 = σ.1 o 2 → σ2.1 o 3 = σ.1 o 3 → σ2.1 o 4 = slf K x c0 s0 (k + 1) → σ2.1 (o + 1) 0 = nI (dp K c0 (k + 1)) → dp K c0 (k + 1) ≤ 61 → (1 ≤ dp K c0 (k + 1) → dp K c0 (k + 1) ≤ 60 → tyC L H (aIt K (k + 1) c0) ∧ CC σ2 (o + 1) (aIt K (k + 1) c0)) → (dp K c0 (k + 1) = 0 → σ2.1 (o + 1) 3 = aRes K (aIt K k c0)) → (∀ j, σ2.1 (o + 5) j = σ.1 (o + 5) j) → zfr o (o + 6) σ σ2 → p_X8_put 3000 (o + 5) (σ2.1 o 2) (σ2.1 (o + 1) 0) σ2 ∧ q_X7_follow o q1 N z x (nI M) (tl3 o σ2) ∧ zfr o (o + 6) σ (l_X7_follow o q1 N z x (nI M) (tl3 o σ2)) ∧ (l_X7_follow o q1 N z x (nI M) (tl3 o σ2)).2 = σ.2 ∧ (∀ i, i < e0 → (l_X7_follow o q1 N z x (nI M) (tl3 o σ2)).1 (o + 5) i = σ.1 (o + 5) i) ∧ ∃ k', k ≤ k' ∧ k' ≤ k + (m + 1) ∧ (∀ i, k ≤ i → i < k' → 1 ≤ dp K c0 i ∧ dp K c0 i ≤ 60) ∧ (k' = k + (m + 1) ∨ dp K c0 k' = 0 ∨ dp K c0 k' = 61) ∧ CFo K L F H c0 x m0 s0 e0 o q1 k' (l_X7_follow o q1 N z x (nI M) (tl3 o σ2)) := by
          intro σ2 s1 b1 b2 b3 b4 b5 b6 b7 b8 b9 b10 b11
          have et := tl_eq (o := o) (e := e0 + k) (d := dp K c0 (k + 1)) (σ := σ2) (by omega) (b3.trans g3) b6
          rw [et]
          have h' : CFo K L F H c0 x m0 s0 e0 o q1 (k + 1) (zuI (zuI (zuI σ2 (o + 5) (e0 + k) (nI (dp K c0 (k + 1)))) o 3 (mxI (σ2.1 o 3) (nI (dp K c0 (k + 1))))) o 2 (nI (e0 + k + 1))) := by
            refine ⟨⟨fun i hi => ?_, fun f hf => ?_⟩, by rw [gI_2, gI_2, gI_2, b2]; exact g2, gI_h rfl rfl, ?_, ?_, ?_, b7, fun y1 y2 => ⟨(b8 y1 y2).1, ?_⟩, fun _ y => ?_, fun i hi => ?_⟩
            · rw [gI_n (by omega), gI_n (by omega), gI_n (by omega), gI_n (by omega), gI_n (by omega), gI_n (by omega)]
              exact b1.1 i hi
            · rw [gI_n (by omega), gI_n (by omega), gI_n (by omega), gI_n (by omega), gI_n (by omega), gI_n (by omega)]
              exact b1.2 f hf
            · rw [gI_n (by omega), gI_h rfl rfl, b4, g4]
              rfl
            · rw [gI_n (by omega), gI_n (by omega), gI_n (by omega)]
              exact b5
            · rw [gI_n (by omega), gI_n (by omega), gI_n (by omega)]
              exact b6
            · obtain ⟨y0, y1', y2', y3, y4, y5⟩ := (b8 y1 y2).2
              have nn : ∀ q j, (q = o + 1 ∨ q = o + 1 + 1 ∨ q = o + 1 + 2 ∨ q = o + 1 + 3) → (zuI (zuI (zuI σ2 (o + 5) (e0 + k) (nI (dp K c0 (k + 1)))) o 3 (mxI (σ2.1 o 3) (nI (dp K c0 (k + 1))))) o 2 (nI (e0 + k + 1))).1 q j = σ2.1 q j := fun q j y => by rw [gI_n (by omega), gI_n (by omega), gI_n (by omega)]
              exact ⟨(nn _ _ (by omega)).trans y0, fun w => (nn _ _ (by omega)).trans (y1' w), (nn _ _ (by omega)).trans y2', fun j hj => (nn _ _ (by omega)).trans (y3 j hj), fun a i j1 j2 hi => (nn _ _ (by omega)).trans (y4 a i j1 j2 hi), fun a j1 j2 => (nn _ _ (by omega)).trans (y5 a j1 j2)⟩
            · rw [gI_n (by omega), gI_n (by omega), gI_n (by omega)]
              exact b9 y
            · rw [gI_n (by omega), gI_n (by omega)]
              by_cases ei : i = k
              · subst ei
                rw [gI_h rfl rfl]
              · rw [gI_n (by omega), b10]
                exact g10 i (by omega)
          have fz : zfr o (o + 6) σ (zuI (zuI (zuI σ2 (o + 5) (e0 + k) (nI (dp K c0 (k + 1)))) o 3 (mxI (σ2.1 o 3) (nI (dp K c0 (k + 1))))) o 2 (nI (e0 + k + 1))) := ((b11.uI (by omega)).uI (by omega)).uI (by omega)
          obtain ⟨i1, i2, i3, i4, k', k1, k2, k3, k4, k5⟩ := ih (k + 1) _ (by omega) h' z (by omega)
          refine ⟨put_p (by decide), i1, fz.tr i2, i3.trans b2, fun i hi => ?_, k', by omega, by omega, fun i y1 y2 => ?_, by omega, k5⟩
          · rw [i4 i hi, gI_n (by omega), gI_n (by omega), gI_n (by omega), b10]
          · by_cases ei : i = k
            · rw [ei]
              omega
            · exact k3 i (by omega) y2
        rw [q_X7_follow, l_X7_follow, if_neg c, if_neg c1, if_neg c2, r2]
        rcases (stp_ty hw ty).2.2 with ⟨h13, s1, s2⟩ | ⟨h8, f, f1, f2, hc⟩
        · -- a RETURN
          have hk1 : 1 ≤ (aNext K (aIt K k c0)).2.2 := by
            have t2 := (ty_top hw ty).2.2.1
            have t3 := (hw.2.2.2 _ t2.1).2
            unfold wfI at t3
            rw [h13] at t3
            have t3 : H (aNext K (aIt K k c0)).1 = 1 := t3
            have t4 := t2.2
            omega
          obtain ⟨l1, l2, l3, l4, l5⟩ := cls_leave_C (K := K) r3 ty.1.1 ty.1.2 hk1 hh6 (by rw [rr]; exact g2)
          have q13 : nI (cmap (K.1 (aNext K (aIt K k c0)).1)) = 13 := by rw [h13]; rfl
          rw [if_pos q13]
          have eu : u_X7_follow_h0_19 o q1 N x (nI M) σ = tl3 o (s_X0_leave (o + 1) (r_X0_reach (o + 1) q1 N σ).2) := rfl
          have eu16 : u_X7_follow_h0_16 o q1 N x (nI M) σ = s_X0_leave (o + 1) (r_X0_reach (o + 1) q1 N σ).2 := rfl
          rw [eu, eu16, e1]
          have ls : ∀ j, (s_X0_leave (o + 1) (r_X0_reach (o + 1) q1 N σ).2).1 o j = σ.1 o j := fun j => (l5.2 _ _ (fun y => by unfold sA at y; omega)).trans (fo j)
          obtain ⟨w1, w2, w3, w4, w5, w6⟩ := fin (s_X0_leave (o + 1) (r_X0_reach (o + 1) q1 N σ).2) 0 ((g1.fr r4 (sC_q (by omega))).fr l5 (fun q j y => by unfold sA at y; omega)) (l5.1.trans rr) (ls 2) (ls 3) (by rw [ls 4, g5]; show _ = slf K x c0 s0 k + aSelf K x (aIt K k c0); rw [show aSelf K x (aIt K k c0) = 0 from if_pos h13]; simp) (by rw [l2.1, ed, s1]) (by rw [ed]; exact (stp_ty hw ty).1) (fun y1 y2 => by rw [ed] at y1 y2; rw [es]; exact ⟨(stp_ty hw ty).2.1 y1 y2, by rw [s1]; exact l2⟩) (fun y => l3 (by rw [ed, s2] at y; have := ty.1.1; omega)) (fun j => (l5.2 _ _ (fun y => by unfold sA at y; omega)).trans (f5 j)) (fz1.tr (fun q hq1 => ⟨funext fun j => l5.2 _ _ (fun y => by unfold sA at y; omega), by rw [l5.1]⟩))
          exact ⟨fun _ _ _ => ⟨r1, fun y => absurd q13 y, fun _ => ⟨l1, w1, w2⟩⟩, w3, w4, w5, w6⟩
        · have q13 : ¬ nI (cmap (K.1 (aNext K (aIt K k c0)).1)) = 13 := by rw [h8]; decide
          have dep : (r_X0_reach (o + 1) q1 N σ).2.1 (o + 1) 0 = nI (dp K c0 k) := r3.1
          rw [if_neg q13, e1, dep]
          have hL := (ty_top hw ty).2.2.1.1
          have hpc : (r_X0_reach (o + 1) q1 N σ).2.1 (o + 1) 1 = nI (aNext K (aIt K k c0)).1 := by
            have := r3.2.1 ty.1.1
            rw [this]
            show nI (if (aIt K k c0).1 = (aIt K k c0).1 then (aNext K (aIt K k c0)).1 else _) = _
            rw [if_pos rfl]
          have L400 := hw.1
          have ecl : f_X0_called (o + 1) q1 (r_X0_reach (o + 1) q1 N σ).2 = nI f := by
            unfold f_X0_called
            rw [hpc, at_i (by omega) (by decide), fq _ _ (by omega) (by omega), (g1.1 _ hL).2]
            exact f2
          rcases hc with ⟨c60, s1, s2⟩ | ⟨c60, s1, s2⟩
          · have n60 : ¬ (60 : Int32) ≤ nI (dp K c0 k) := nI_ge (b := 60) (by omega) (by decide)
            rw [if_neg n60, ecl]
            have hst : ∀ y : Int32, ∃ w, p_X0_enter (o + 1) q1 N (zuI (r_X0_reach (o + 1) q1 N σ).2 o 4 y) ∧ s_X0_enter (o + 1) q1 N (zuI (r_X0_reach (o + 1) q1 N σ).2 o 4 y) = w ∧ CC w (o + 1) (aEnter K (aIt K k c0) (aNext K (aIt K k c0)) f) ∧ rfr (sA (o + 1)) (zuI (r_X0_reach (o + 1) q1 N σ).2 o 4 y) w ∧ CK w q1 K L F := fun y => by
              have C1 : CK (zuI (r_X0_reach (o + 1) q1 N σ).2 o 4 y) q1 K L F := by
                refine ⟨fun i hi => ?_, fun g hg => ?_⟩
                · rw [gI_n (by omega), gI_n (by omega), fq _ _ (by omega) (by omega), fq _ _ (by omega) (by omega)]
                  exact g1.1 i hi
                · rw [gI_n (by omega), gI_n (by omega), fq _ _ (by omega) (by omega), fq _ _ (by omega) (by omega)]
                  exact g1.2 g hg
              have D1 : CC (zuI (r_X0_reach (o + 1) q1 N σ).2 o 4 y) (o + 1) (aMid (aIt K k c0) (aNext K (aIt K k c0))) := r3.fr (S := fun q j => q = o) (rfr.rf.uI (show (fun q j => q = o) o 4 from rfl)) (fun q j (y : q = o) => by omega)
              obtain ⟨x1, x2, x3⟩ := cls_enter_C (N := N) (show q1 + 7 ≤ o + 1 ∨ o + 1 + 4 ≤ q1 by omega) L400 hw.2.1 (by omega) C1 D1 ty.1.1 c60 hL f1 f2 (hw.2.2.1 f f1).2.2 (ty_enter hw ty h8 f1 f2 c60).2 hh6 (by rw [gI_2, rr]; exact g2)
              exact ⟨_, x1, rfl, x2, x3, C1.fr x3 (fun q j y => by unfold sA at y; omega)⟩
            have ec : aSelf K x (aIt K k c0) = if nI f = x then 1 else 0 := by
              unfold aSelf
              rw [if_neg (by rw [h8]; decide), if_pos c60, f2]
            by_cases cf : nI f = x
            · obtain ⟨w, x1, x2, x3, x4, x5⟩ := hst (((r_X0_reach (o + 1) q1 N σ).2.1 o 4) + 1)
              rw [if_pos cf]
              have eu : u_X7_follow_h0_15 o q1 N x (nI M) σ = tl3 o (s_X0_enter (o + 1) q1 N (zuI (r_X0_reach (o + 1) q1 N σ).2 o 4 (((r_X0_reach (o + 1) q1 N σ).2.1 o 4) + 1))) := rfl
              have eu12 : u_X7_follow_h0_12 o q1 N x (nI M) σ = s_X0_enter (o + 1) q1 N (zuI (r_X0_reach (o + 1) q1 N σ).2 o 4 (((r_X0_reach (o + 1) q1 N σ).2.1 o 4) + 1)) := rfl
              have eu11 : u_X7_follow_h0_11 o q1 N x (nI M) σ = zuI (r_X0_reach (o + 1) q1 N σ).2 o 4 (((r_X0_reach (o + 1) q1 N σ).2.1 o 4) + 1) := rfl
              rw [eu, eu12, eu11, x2]
              have ls : ∀ j, ¬ j = 4 → w.1 o j = σ.1 o j := fun j hj => (x4.2 _ _ (fun y => by unfold sA at y; omega)).trans ((gI_n (by omega)).trans (fo j))
              obtain ⟨w1, w2, w3, w4, w5, w6⟩ := fin w 0 x5 (x4.1.trans rr) (ls 2 (by omega)) (ls 3 (by omega)) (by rw [x4.2 _ _ (fun y => by unfold sA at y; omega), gI_h rfl rfl, fo, g5]; show _ = slf K x c0 s0 k + aSelf K x (aIt K k c0); rw [ec, if_pos cf]) (by rw [x3.1, ed, s1]) (by rw [ed]; exact (stp_ty hw ty).1) (fun y1 y2 => by rw [ed] at y1 y2; rw [es]; exact ⟨(stp_ty hw ty).2.1 y1 y2, by rw [s1]; exact x3⟩) (fun y => by rw [ed, s2] at y; omega) (fun j => (x4.2 _ _ (fun y => by unfold sA at y; omega)).trans ((gI_n (by omega)).trans (f5 j))) ((fz1.uI (by omega)).tr (fun q hq1 => ⟨funext fun j => x4.2 _ _ (fun y => by unfold sA at y; omega), by rw [x4.1]⟩))
              exact ⟨fun _ _ _ => ⟨r1, fun _ => ⟨fun y => absurd y n60, fun _ => ⟨at_p (by decide), fun y => absurd cf y, fun _ => ⟨x1, w1, w2⟩⟩⟩, fun y => absurd y q13⟩, w3, w4, w5, w6⟩
            · obtain ⟨w, x1, x2, x3, x4, x5⟩ := hst (((r_X0_reach (o + 1) q1 N σ).2.1 o 4) + 0)
              rw [if_neg cf]
              have eu : u_X7_follow_h0_10 o q1 N x (nI M) σ = tl3 o (s_X0_enter (o + 1) q1 N (zuI (r_X0_reach (o + 1) q1 N σ).2 o 4 (((r_X0_reach (o + 1) q1 N σ).2.1 o 4) + 0))) := rfl
              have eu12 : u_X7_follow_h0_7 o q1 N x (nI M) σ = s_X0_enter (o + 1) q1 N (zuI (r_X0_reach (o + 1) q1 N σ).2 o 4 (((r_X0_reach (o + 1) q1 N σ).2.1 o 4) + 0)) := rfl
              have eu11 : u_X7_follow_h0_6 o q1 N x (nI M) σ = zuI (r_X0_reach (o + 1) q1 N σ).2 o 4 (((r_X0_reach (o + 1) q1 N σ).2.1 o 4) + 0) := rfl
              rw [eu, eu12, eu11, x2]
              have ls : ∀ j, ¬ j = 4 → w.1 o j = σ.1 o j := fun j hj => (x4.2 _ _ (fun y => by unfold sA at y; omega)).trans ((gI_n (by omega)).trans (fo j))
              obtain ⟨w1, w2, w3, w4, w5, w6⟩ := fin w 0 x5 (x4.1.trans rr) (ls 2 (by omega)) (ls 3 (by omega)) (by rw [x4.2 _ _ (fun y => by unfold sA at y; omega), gI_h rfl rfl, fo, g5]; show _ = slf K x c0 s0 k + aSelf K x (aIt K k c0); rw [ec, if_neg cf]) (by rw [x3.1, ed, s1]) (by rw [ed]; exact (stp_ty hw ty).1) (fun y1 y2 => by rw [ed] at y1 y2; rw [es]; exact ⟨(stp_ty hw ty).2.1 y1 y2, by rw [s1]; exact x3⟩) (fun y => by rw [ed, s2] at y; omega) (fun j => (x4.2 _ _ (fun y => by unfold sA at y; omega)).trans ((gI_n (by omega)).trans (f5 j))) ((fz1.uI (by omega)).tr (fun q hq1 => ⟨funext fun j => x4.2 _ _ (fun y => by unfold sA at y; omega), by rw [x4.1]⟩))
              exact ⟨fun _ _ _ => ⟨r1, fun _ => ⟨fun y => absurd y n60, fun _ => ⟨at_p (by decide), fun _ => ⟨x1, w1, w2⟩, fun y => absurd y cf⟩⟩, fun y => absurd y q13⟩, w3, w4, w5, w6⟩
          · have y60 : (60 : Int32) ≤ nI (dp K c0 k) := nI_le (a := 60) (by omega) (by omega)
            rw [if_pos y60]
            have eu : u_X7_follow_h0_5 o q1 N x (nI M) σ = tl3 o (zuI (r_X0_reach (o + 1) q1 N σ).2 (o + 1) 0 (((r_X0_reach (o + 1) q1 N σ).2.1 (o + 1) 0) + 1)) := rfl
            have eu2 : u_X7_follow_h0_2 o q1 N x (nI M) σ = zuI (r_X0_reach (o + 1) q1 N σ).2 (o + 1) 0 (((r_X0_reach (o + 1) q1 N σ).2.1 (o + 1) 0) + 1) := rfl
            rw [eu, eu2]
            have ec : aSelf K x (aIt K k c0) = 0 := by
              unfold aSelf
              rw [if_neg (by rw [h8]; decide), if_neg (by omega)]
            obtain ⟨w1, w2, w3, w4, w5, w6⟩ := fin (zuI (r_X0_reach (o + 1) q1 N σ).2 (o + 1) 0 (((r_X0_reach (o + 1) q1 N σ).2.1 (o + 1) 0) + 1)) 0 ((g1.fr r4 (sC_q (by omega))).fr (rfr.rf.uI (show (fun q j => q = o + 1) (o + 1) 0 from rfl)) (fun q j (y : q = o + 1) => by omega)) rr ((gI_n (by omega)).trans (fo 2)) ((gI_n (by omega)).trans (fo 3)) (by rw [gI_n (by omega), fo, g5]; show _ = slf K x c0 s0 k + aSelf K x (aIt K k c0); rw [ec]; simp) (by rw [gI_h rfl rfl, dep, nI_1, ed, s2]; congr 1; omega) (by rw [ed]; exact (stp_ty hw ty).1) (fun y1 y2 => by rw [ed, s2] at y2; omega) (fun y => by rw [ed, s2] at y; omega) (fun j => (gI_n (by omega)).trans (f5 j)) (fz1.uI (by omega))
            exact ⟨fun _ _ _ => ⟨r1, fun _ => ⟨fun _ => ⟨w1, w2⟩, fun y => absurd y60 y⟩, fun y => absurd y q13⟩, w3, w4, w5, w6⟩
