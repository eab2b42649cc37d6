/-! the reference's plain run -/
def cnt (K : aK) (c : aC) (d : Nat) : Nat → Nat
  | 0 => if dp K c 0 = d then 1 else 0
  | k + 1 => cnt K c d k + if dp K c k < dp K c (k + 1) ∧ dp K c (k + 1) = d then 1 else 0
theorem cnt_le1 {K : aK} {c : aC} {d : Nat} : ∀ k : Nat, cnt K c d k ≤ k + 1 := by
  intro k
  induction k with
  | zero =>
    unfold cnt
    split <;> omega
  | succ k ih =>
    unfold cnt
    split <;> omega
def sPl (q j : Nat) : Prop := (q = 469 ∧ ((216 ≤ j ∧ j < 236) ∨ 11440 ≤ j)) ∨ q = 492 ∨ q = 493 ∨ q = 494 ∨ (q = 468 ∧ 41 ≤ j ∧ j ≤ 48)
def CPo (K : aK) (L F : Nat) (H : Nat → Nat) (c0 : aC) (x : Int32) (B k : Nat) (τ : zS) : Prop := MK τ B K L F ∧ τ.1 468 45 = nI (1 + k) ∧ τ.1 468 46 = mxJ K c0 1 k ∧ τ.1 468 47 = slf K x c0 0 k ∧ τ.1 469 217 = nI (dp K c0 k) ∧ dp K c0 k ≤ 60 ∧ (1 ≤ dp K c0 k → tyC L H (aIt K k c0) ∧ ME τ 4 (aIt K k c0)) ∧ (1 ≤ k → dp K c0 k = 0 → τ.1 468 42 = aRes K (aIt K (k - 1) c0)) ∧ (∃ mo, mxJ K c0 1 k = nI mo ∧ dp K c0 k ≤ mo ∧ mo ≤ 60) ∧ (∀ i, i ≤ k → τ.1 494 i = if i = 0 ∨ dp K c0 (i - 1) < dp K c0 i then 1 else 0) ∧ ∀ d, 1 ≤ d → d ≤ 60 → τ.1 493 d = nI (cnt K c0 d k)
theorem CPo.fr {K : aK} {L F : Nat} {H : Nat → Nat} {c0 : aC} {x : Int32} {B k : Nat} {τ τ1 : zS} (hw : wfK K L F H) (h : CPo K L F H c0 x B k τ) (h1 : ∀ q j, ¬ (q = 468 ∧ j = 48) → τ1.1 q j = τ.1 q j) : CPo K L F H c0 x B k τ1 := by
  obtain ⟨⟨g1, g1b, g1c, g1d⟩, g2, g3, g4, g5, g6, g7, g8, g9, g10, g11⟩ := h
  refine ⟨⟨g1, (h1 _ _ (by omega)).trans g1b, fun i hi => ⟨(h1 _ _ (by omega)).trans (g1c i hi).1, (h1 _ _ (by omega)).trans (g1c i hi).2⟩, fun f hf => ⟨(h1 _ _ (by omega)).trans (g1d f hf).1, (h1 _ _ (by omega)).trans (g1d f hf).2⟩⟩, (h1 _ _ (by omega)).trans g2, (h1 _ _ (by omega)).trans g3, (h1 _ _ (by omega)).trans g4, (h1 _ _ (by omega)).trans g5, g6, fun z => ⟨(g7 z).1, ?_⟩, fun z1 z2 => (h1 _ _ (by omega)).trans (g8 z1 z2), g9, fun i hi => (h1 _ _ (by omega)).trans (g10 i hi), fun d d1 d2 => (h1 _ _ (by omega)).trans (g11 d d1 d2)⟩
  obtain ⟨y1, y2, y3, y4⟩ := (g7 z).2
  exact ⟨fun a a1 a2 => (h1 _ _ (by omega)).trans (y1 a a1 a2), (h1 _ _ (by omega)).trans y2, fun j hj => (h1 _ _ (by omega)).trans (y3 j hj), fun a i a1 a2 hi => (h1 _ _ (by omega)).trans (y4 a i a1 a2 hi)⟩
theorem nar1 : vp_nar .boolean 1 = 1 := by decide
theorem nar0 : vp_nar .boolean 0 = 0 := by decide
theorem rf_plain {K : aK} {L F B N : Nat} {H : Nat → Nat} {c0 : aC} {x : Int32} (hw : wfK K L F H) (hN : 500 < N) : ∀ (m k : Nat) (τ : zS), 1 + k + m = 2000 → CPo K L F H c0 x B k τ → ∀ (y : Nat) (v2 : Int32), 3 * m + 2 < y → q_X9_goPlain N y 1 x v2 τ ∧ rfr sPl τ (l_X9_goPlain N y 1 x v2 τ).2 ∧ (((l_X9_goPlain N y 1 x v2 τ).1 = 1 ∧ ∃ k', k ≤ k' ∧ 1 + k' ≤ 2000 ∧ (∀ i, k ≤ i → i < k' → 1 ≤ dp K c0 i ∧ dp K c0 i ≤ 60) ∧ dp K c0 k' = 0 ∧ CPo K L F H c0 x B k' (l_X9_goPlain N y 1 x v2 τ).2 ∧ (l_X9_goPlain N y 1 x v2 τ).2.1 468 48 = (l_X9_goPlain N y 1 x v2 τ).2.1 468 42) ∨ ((l_X9_goPlain N y 1 x v2 τ).1 = 0 ∧ ∀ k', k ≤ k' → 1 + k' ≤ 2000 → (∀ i, k ≤ i → i < k' → 1 ≤ dp K c0 i ∧ dp K c0 i ≤ 60) → ¬ dp K c0 k' = 0)) := by
  intro m
  induction m with
  | zero =>
    intro k τ hk h y v2 hy
    obtain ⟨y, rfl⟩ : ∃ q, y = q + 1 + 1 := ⟨y - 2, by omega⟩
    have hx := h
    obtain ⟨g1, g2, g3, g4, g5, g6, g7, g8, g9, g10, g11⟩ := h
    have eF : f_X9_frames 4 τ = nI (dp K c0 k) := g5
    have pF : p_X9_frames 4 τ := vp_in_nI (n := 217) (N := 14241) (by decide) (by decide)
    by_cases d0 : dp K c0 k = 0
    · have c1 : f_X9_frames 4 τ ≤ 0 := by rw [eF, d0]; decide
      rw [q_X9_goPlain, l_X9_goPlain, if_pos c1]
      refine ⟨⟨pF, fun z => absurd c1 z⟩, rfr.rf.uI (show sPl 468 48 from Or.inr (Or.inr (Or.inr (Or.inr ⟨rfl, by omega, by omega⟩)))), Or.inl ⟨rfl, k, Nat.le_refl _, by omega, fun i h1 h2 => absurd h1 (by omega), d0, hx.fr hw (fun q j z => gI_n (by omega)), ?_⟩⟩
      show (zuI τ 468 48 (τ.1 468 42)).1 468 48 = (zuI τ 468 48 (τ.1 468 42)).1 468 42
      rw [gI_h rfl rfl, gI_n (by omega)]
    · have c1 : ¬ f_X9_frames 4 τ ≤ 0 := by rw [eF]; exact nI_nle (by omega) (by omega)
      obtain ⟨ty, me⟩ := g7 (by omega)
      obtain ⟨r1, r2, -⟩ := ref_goOn_C (t := 4) hw (by omega) (show 405 < N by have := hw.1; omega) g1 g5 me ty
      have e45 : (u_X9_goPlain_h1_2 N x v2 τ).1 468 45 = 2000 := by
        have : (u_X9_goPlain_h1_2 N x v2 τ).1 468 45 = τ.1 468 45 := r2.2 _ _ (fun z => by unfold sG sM at z; omega)
        rw [this, g2, show 1 + k = 2000 by omega]
        rfl
      rw [q_X9_goPlain, l_X9_goPlain, if_neg c1, if_pos e45, q_X9_goPlain, l_X9_goPlain]
      refine ⟨⟨pF, fun _ => ⟨r1, fun _ => trivial, fun z => absurd e45 z⟩⟩, r2.wk (fun q j z => ?_), Or.inr ⟨rfl, fun k' k1 k2 _ => ?_⟩⟩
      · have := ty.1
        unfold sG sM at z
        unfold sPl
        omega
      · rw [show k' = k by omega]
        exact d0
  | succ m ih =>
    intro k τ hk h y v2 hy
    obtain ⟨y, rfl⟩ : ∃ q, y = q + 1 + 1 + 1 := ⟨y - 3, by omega⟩
    have hx := h
    obtain ⟨g1, g2, g3, g4, g5, g6, g7, g8, ⟨mo, mo1, mo2, mo3⟩, g10, g11⟩ := h
    have eF : f_X9_frames 4 τ = nI (dp K c0 k) := g5
    have pF : ∀ τ', p_X9_frames 4 τ' := fun _ => vp_in_nI (n := 217) (N := 14241) (by decide) (by decide)
    by_cases d0 : dp K c0 k = 0
    · have c1 : f_X9_frames 4 τ ≤ 0 := by rw [eF, d0]; decide
      rw [q_X9_goPlain, l_X9_goPlain, if_pos c1]
      refine ⟨⟨pF τ, fun z => absurd c1 z⟩, rfr.rf.uI (show sPl 468 48 from Or.inr (Or.inr (Or.inr (Or.inr ⟨rfl, by omega, by omega⟩)))), Or.inl ⟨rfl, k, Nat.le_refl _, by omega, fun i h1 h2 => absurd h1 (by omega), d0, hx.fr hw (fun q j z => gI_n (by omega)), ?_⟩⟩
      show (zuI τ 468 48 (τ.1 468 42)).1 468 48 = (zuI τ 468 48 (τ.1 468 42)).1 468 42
      rw [gI_h rfl rfl, gI_n (by omega)]
    · have c1 : ¬ f_X9_frames 4 τ ≤ 0 := by rw [eF]; exact nI_nle (by omega) (by omega)
      obtain ⟨ty, me⟩ := g7 (by omega)
      have es : aIt K (k + 1) c0 = aStp K (aIt K k c0) := aIt_s k c0
      have ed : dp K c0 (k + 1) = (aStp K (aIt K k c0)).1 := by unfold dp; rw [es]
      have hd1 : (aIt K k c0).1 = dp K c0 k := rfl
      have hh6 : (aNext K (aIt K k c0)).2.2 ≤ 1680 := by
        have t1 := (ty_top hw ty).1
        have t2 := (ty_top hw ty).2.2.1
        have t3 := (hw.2.2.2 _ t2.1).1
        have t4 := t2.2
        omega
      obtain ⟨r1, r2, r3, r4⟩ := ref_goOn_C (t := 4) hw (by omega) (show 405 < N by have := hw.1; omega) g1 g5 me ty
      have e2 : u_X9_goPlain_h1_2 N x v2 τ = (r_X9_goOn (nI 4) N τ).2 := rfl
      have e4 : r_X9_goOn 4 N τ = r_X9_goOn (nI 4) N τ := rfl
      generalize hr : r_X9_goOn (nI 4) N τ = rr at r2 r3 r4 e2 e4
      obtain ⟨b, τ2⟩ := rr
      have sg : ∀ q j, ¬ sG 4 (dp K c0 k) q j → τ2.1 q j = τ.1 q j := r2.2
      have q45 : τ2.1 468 45 = nI (1 + k) := (sg _ _ (fun z => by unfold sG sM at z; omega)).trans g2
      have q46 : τ2.1 468 46 = nI mo := ((sg _ _ (fun z => by unfold sG sM at z; omega)).trans g3).trans mo1
      have q47 : τ2.1 468 47 = slf K x c0 0 k := (sg _ _ (fun z => by unfold sG sM at z; omega)).trans g4
      have q217 : τ2.1 469 217 = nI (dp K c0 k) := (sg _ _ (fun z => by unfold sG sM at z; omega)).trans g5
      have q494 : ∀ i, τ2.1 494 i = τ.1 494 i := fun i => sg _ _ (fun z => by unfold sG sM at z; omega)
      have q493 : ∀ i, τ2.1 493 i = τ.1 493 i := fun i => sg _ _ (fun z => by unfold sG sM at z; omega)
      have fP : rfr sPl τ τ2 := r2.wk (fun q j z => by
        have := ty.1
        unfold sG sM at z
        unfold sPl
        omega)
      have K2 : MK τ2 B K L F := g1.fr r2 (fun q j z => sG_K z)
      have e45 : ¬ (u_X9_goPlain_h1_2 N x v2 τ).1 468 45 = 2000 := by
        rw [e2]
        show ¬ τ2.1 468 45 = 2000
        rw [q45]
        exact fun z => by
          have := (nI_eq (b := 2000) (by omega) (by decide)).mp z
          omega
      -- what is common to both steps: behind the step, at k + 1
      rw [q_X9_goPlain, l_X9_goPlain, if_neg c1, if_neg e45, e4, e2]
      rcases (stp_ty hw ty).2.2 with ⟨h13, s1, s2⟩ | ⟨h8, f, f1, f2, hc⟩
      · -- a RETURN
        obtain ⟨z1, z2, z3⟩ := r3 h13
        have z1 : b = 0 := z1
        have z2 : ME τ2 4 (aMid (aIt K k c0) ((aNext K (aIt K k c0)).1 + 1, (aNext K (aIt K k c0)).2.1, (aNext K (aIt K k c0)).2.2 - 1)) := z2
        have z3 : τ2.1 468 42 = aRes K (aIt K k c0) := z3
        have hk1 : 1 ≤ (aNext K (aIt K k c0)).2.2 := by
          have t2 := (ty_top hw ty).2.2.1
          have t3 := (hw.2.2.2 _ t2.1).2
          unfold wfI at t3
          rw [h13] at t3
          have t3 : H (aNext K (aIt K k c0)).1 = 1 := t3
          have t4 := t2.2
          omega
        subst z1
        dsimp only
        rw [if_pos rfl]
        have e3 : u_X9_goPlain_h3_3 N x 0 τ2 = zuI (zuI (zuI τ2 494 (1 + k) 0) 468 45 (nI (1 + (k + 1)))) 469 217 (nI (dp K c0 k - 1)) := by
          unfold u_X9_goPlain_h3_3 u_X9_goPlain_h3_2 u_X9_goPlain_h3_1
          rw [show (f_X9_atTask 4 1).toNatClampNeg = 217 from rfl, q45, nI_clamp (by omega), nar0, gI_n (by omega), gI_n (by omega), gI_n (by omega), q45, nI_1, q217, nI_s1 (by omega)]
          rfl
        have q3 : ∀ q j, ¬ (q = 494 ∧ j = 1 + k) → ¬ (q = 468 ∧ j = 45) → ¬ (q = 469 ∧ j = 217) → (zuI (zuI (zuI τ2 494 (1 + k) 0) 468 45 (nI (1 + (k + 1)))) 469 217 (nI (dp K c0 k - 1))).1 q j = τ2.1 q j := fun q j w1 w2 w3 => by rw [gI_n (by omega), gI_n (by omega), gI_n (by omega)]
        have k45 : (zuI (zuI (zuI τ2 494 (1 + k) 0) 468 45 (nI (1 + (k + 1)))) 469 217 (nI (dp K c0 k - 1))).1 468 45 = nI (1 + (k + 1)) := by rw [gI_n (by omega), gI_h rfl rfl]
        have k494 : (zuI (zuI (zuI τ2 494 (1 + k) 0) 468 45 (nI (1 + (k + 1)))) 469 217 (nI (dp K c0 k - 1))).1 494 (1 + k) = 0 := by rw [gI_n (by omega), gI_n (by omega), gI_h rfl rfl]
        have k217 : (zuI (zuI (zuI τ2 494 (1 + k) 0) 468 45 (nI (1 + (k + 1)))) 469 217 (nI (dp K c0 k - 1))).1 469 217 = nI (dp K c0 k - 1) := gI_h rfl rfl
        have f3 : rfr sPl τ (zuI (zuI (zuI τ2 494 (1 + k) 0) 468 45 (nI (1 + (k + 1)))) 469 217 (nI (dp K c0 k - 1))) := ((fP.uI (show sPl 494 _ from Or.inr (Or.inr (Or.inr (Or.inl rfl))))).uI (show sPl 468 45 from Or.inr (Or.inr (Or.inr (Or.inr ⟨rfl, by omega, by omega⟩))))).uI (show sPl 469 217 from Or.inl ⟨rfl, Or.inl ⟨by omega, by omega⟩⟩)
        generalize hτ3 : zuI (zuI (zuI τ2 494 (1 + k) 0) 468 45 (nI (1 + (k + 1)))) 469 217 (nI (dp K c0 k - 1)) = τ3 at e3 q3 k45 k494 k217 f3
        have eF3 : f_X9_frames 4 τ3 = nI (dp K c0 k - 1) := k217
        -- the state behind it
        have nx : ∀ τ4, rfr (sM 4 ((aIt K k c0).1 - 1)) τ3 τ4 → (1 ≤ dp K c0 (k + 1) → ME τ4 4 (aIt K (k + 1) c0)) → CPo K L F H c0 x B (k + 1) τ4 ∧ rfr sPl τ τ4 := by
          intro τ4 w1 w2
          have hs2 : dp K c0 (k + 1) = dp K c0 k - 1 := by rw [ed, s2, hd1]
          have o4 : ∀ q j, ¬ q = 469 → τ4.1 q j = τ3.1 q j := fun q j hq => w1.2 _ _ (fun z => hq z.1)
          have m1 : mxJ K c0 1 (k + 1) = nI mo := by
            show mxI (mxJ K c0 1 k) (nI (dp K c0 (k + 1))) = nI mo
            rw [mo1, hs2]
            unfold mxI
            rw [if_neg (nI_nlt (by omega) (by omega))]
          have s47 : slf K x c0 0 (k + 1) = slf K x c0 0 k := by
            show slf K x c0 0 k + aSelf K x (aIt K k c0) = _
            rw [show aSelf K x (aIt K k c0) = 0 from if_pos h13]
            simp
          refine ⟨⟨⟨K2.1, ?_, fun i hi => ⟨?_, ?_⟩, fun g hg => ⟨?_, ?_⟩⟩, by rw [o4 _ _ (by decide)]; exact k45, by rw [o4 _ _ (by decide), q3 _ _ (by omega) (by omega) (by omega), q46, m1], by rw [o4 _ _ (by decide), q3 _ _ (by omega) (by omega) (by omega), q47, s47], ?_, by omega, fun w => ⟨?_, w2 w⟩, fun _ _ => by rw [o4 _ _ (by decide), q3 _ _ (by omega) (by omega) (by omega)]; exact z3, ⟨mo, m1, by omega, mo3⟩, fun i hi => ?_, fun d d1 d2 => ?_⟩, f3.tr (w1.wk (fun q j z => ?_))⟩
          · rw [o4 _ _ (by decide), q3 _ _ (by omega) (by omega) (by omega)]; exact K2.2.1
          · rw [o4 _ _ (by decide), q3 _ _ (by omega) (by omega) (by omega)]; exact (K2.2.2.1 i hi).1
          · rw [o4 _ _ (by decide), q3 _ _ (by omega) (by omega) (by omega)]; exact (K2.2.2.1 i hi).2
          · rw [o4 _ _ (by decide), q3 _ _ (by omega) (by omega) (by omega)]; exact (K2.2.2.2 g hg).1
          · rw [o4 _ _ (by decide), q3 _ _ (by omega) (by omega) (by omega)]; exact (K2.2.2.2 g hg).2
          · rw [w1.2 _ _ (fun z => by unfold sM at z; omega), k217, hs2]
          · rw [es]
            exact (stp_ty hw ty).2.1 (by rw [← ed]; exact w) (by rw [← ed]; omega)
          · rw [o4 _ _ (by decide)]
            by_cases ei : i = k + 1
            · subst ei
              rw [show k + 1 = 1 + k by omega, k494, if_neg]
              rw [show 1 + k - 1 = k by omega, show 1 + k = k + 1 by omega]
              omega
            · rw [q3 _ _ (by omega) (by omega) (by omega), q494]
              exact g10 i (by omega)
          · rw [o4 _ _ (by decide), q3 _ _ (by omega) (by omega) (by omega), q493, g11 d d1 d2]
            show _ = nI (cnt K c0 d k + _)
            rw [if_neg (by omega)]
            rfl
          · unfold sM at z
            unfold sPl
            omega
        have mme : ME τ3 4 (aMid (aIt K k c0) ((aNext K (aIt K k c0)).1 + 1, (aNext K (aIt K k c0)).2.1, (aNext K (aIt K k c0)).2.2 - 1)) := by
          obtain ⟨y1, y2, y3, y4⟩ := z2
          exact ⟨fun a a1 a2 => (q3 _ _ (by omega) (by omega) (by omega)).trans (y1 a a1 a2), (q3 _ _ (by omega) (by omega) (by omega)).trans y2, fun j hj => (q3 _ _ (by omega) (by omega) (by omega)).trans (y3 j hj), fun a i a1 a2 hi => (q3 _ _ (by omega) (by omega) (by omega)).trans (y4 a i a1 a2 hi)⟩
        have v45 : vp_in (τ2.1 468 45) 2001 := by rw [q45]; exact vp_in_nI (by omega) (by decide)
        have fin : ∀ τ4, CPo K L F H c0 x B (k + 1) τ4 → rfr sPl τ τ4 → q_X9_goPlain N (y + 1) 4 x 0 τ4 ∧ rfr sPl τ (l_X9_goPlain N (y + 1) 4 x 0 τ4).2 ∧ (((l_X9_goPlain N (y + 1) 4 x 0 τ4).1 = 1 ∧ ∃ k', k ≤ k' ∧ 1 + k' ≤ 2000 ∧ (∀ i, k ≤ i → i < k' → 1 ≤ dp K c0 i ∧ dp K c0 i ≤ 60) ∧ dp K c0 k' = 0 ∧ CPo K L F H c0 x B k' (l_X9_goPlain N (y + 1) 4 x 0 τ4).2 ∧ (l_X9_goPlain N (y + 1) 4 x 0 τ4).2.1 468 48 = (l_X9_goPlain N (y + 1) 4 x 0 τ4).2.1 468 42) ∨ ((l_X9_goPlain N (y + 1) 4 x 0 τ4).1 = 0 ∧ ∀ k', k ≤ k' → 1 + k' ≤ 2000 → (∀ i, k ≤ i → i < k' → 1 ≤ dp K c0 i ∧ dp K c0 i ≤ 60) → ¬ dp K c0 k' = 0)) := by
          intro τ4 w1 w2
          rw [q_X9_goPlain, l_X9_goPlain]
          obtain ⟨i1, i2, i3⟩ := ih (k + 1) τ4 (by omega) w1 y 0 (by omega)
          refine ⟨i1, w2.tr i2, ?_⟩
          rcases i3 with ⟨i3, k', k1, k2, k3, k4⟩ | ⟨i3, i4⟩
          · refine Or.inl ⟨i3, k', by omega, k2, fun i w3 w4 => ?_, k4⟩
            by_cases ei : i = k
            · rw [ei]; omega
            · exact k3 i (by omega) w4
          · refine Or.inr ⟨i3, fun k' k1 k2 k3 => ?_⟩
            by_cases ek : k' = k
            · rw [ek]; exact d0
            · exact i4 k' (by omega) k2 (fun i w3 w4 => k3 i (by omega) w4)
        by_cases dz : dp K c0 k - 1 = 0
        · have cz : f_X9_frames 4 τ3 ≤ 0 := by rw [eF3, dz]; decide
          obtain ⟨n1, n2⟩ := nx τ3 rfr.rf (fun w => by rw [ed, s2, hd1] at w; omega)
          obtain ⟨x1, x2, x3⟩ := fin τ3 n1 n2
          have hq3 : q_X9_goPlain N (y + 1 + 1) 3 x 0 τ2 := by
            rw [q_X9_goPlain, e3]
            exact ⟨v45, fun _ => ⟨vp_in_nI (n := 217) (N := 14241) (by decide) (by decide), pF τ3, fun _ => x1, fun z => absurd cz z⟩, fun z => absurd rfl z⟩
          rw [l_X9_goPlain, if_pos rfl, e3, if_pos cz]
          exact ⟨⟨pF τ, fun _ => ⟨r1, fun z => absurd z (by rw [e2] at e45; exact e45), fun _ => ⟨fun _ => hq3, fun z => absurd rfl z⟩⟩⟩, x2, x3⟩
        · have cz : ¬ f_X9_frames 4 τ3 ≤ 0 := by rw [eF3]; exact nI_nle (by omega) (by omega)
          obtain ⟨b1, b2, b3⟩ := ref_back_C (t := 4) (by omega) (by omega) (by have := ty.1; omega) ⟨hk1, by omega⟩ mme
          have e42 : τ3.1 468 42 = (aNext K (aIt K k c0)).2.1 ((aNext K (aIt K k c0)).2.2 - 1) := (q3 _ _ (by omega) (by omega) (by omega)).trans z3
          have e5 : u_X9_goPlain_h3_4 N x 0 τ2 = s_X9_put (nI 4) ((aNext K (aIt K k c0)).2.1 ((aNext K (aIt K k c0)).2.2 - 1)) τ3 := by
            unfold u_X9_goPlain_h3_4
            rw [e3, e42]
            rfl
          obtain ⟨n1, n2⟩ := nx _ b3 (fun w => by rw [es, s1]; exact b2)
          obtain ⟨x1, x2, x3⟩ := fin _ n1 n2
          have hq3 : q_X9_goPlain N (y + 1 + 1) 3 x 0 τ2 := by
            rw [q_X9_goPlain, e5, e3, e42]
            exact ⟨v45, fun _ => ⟨vp_in_nI (n := 217) (N := 14241) (by decide) (by decide), pF τ3, fun z => absurd z cz, fun _ => ⟨b1, x1⟩⟩, fun z => absurd rfl z⟩
          rw [l_X9_goPlain, if_pos rfl, e3, if_neg cz, e5]
          exact ⟨⟨pF τ, fun _ => ⟨r1, fun z => absurd z (by rw [e2] at e45; exact e45), fun _ => ⟨fun _ => hq3, fun z => absurd rfl z⟩⟩⟩, x2, x3⟩
      · -- a CALL
        obtain ⟨f', f1', f2', z1, z2, z3, z4⟩ := r4 h8
        have ef : f' = f := by
          have := hw.2.1
          exact (nI_eq (by omega) (by omega)).mp (f2'.symm.trans f2)
        subst ef
        have z1 : b = 1 := z1
        have z3 : τ2.1 468 41 = nI f' := z3
        subst z1
        have eF2 : f_X9_frames 4 τ2 = nI (dp K c0 k) := q217
        have n10 : ¬ (1 : Int32) = 0 := by decide
        rcases hc with ⟨c60, s1, s2⟩ | ⟨c60, s1, s2⟩
        · have n60 : ¬ f_X9_frames 4 τ2 = 60 := by
            rw [eF2]
            exact fun z => by
              have := (nI_eq (b := 60) (by omega) (by decide)).mp z
              omega
          dsimp only
          rw [if_neg n10, if_neg n60]
          have e32 : u_X9_goPlain_h3_2 N x 1 τ2 = zuI (zuI τ2 494 (1 + k) 1) 468 45 (nI (1 + (k + 1))) := by
            unfold u_X9_goPlain_h3_2 u_X9_goPlain_h3_1
            rw [q45, nI_clamp (by omega), nar1, gI_n (by omega), q45, nI_1]
            rfl
          have q3 : ∀ q j, ¬ (q = 494 ∧ j = 1 + k) → ¬ (q = 468 ∧ j = 45) → (zuI (zuI τ2 494 (1 + k) 1) 468 45 (nI (1 + (k + 1)))).1 q j = τ2.1 q j := fun q j w1 w2 => by rw [gI_n (by omega), gI_n (by omega)]
          have k45 : (zuI (zuI τ2 494 (1 + k) 1) 468 45 (nI (1 + (k + 1)))).1 468 45 = nI (1 + (k + 1)) := gI_h rfl rfl
          have k494 : (zuI (zuI τ2 494 (1 + k) 1) 468 45 (nI (1 + (k + 1)))).1 494 (1 + k) = 1 := by rw [gI_n (by omega), gI_h rfl rfl]
          have f3 : rfr sPl τ (zuI (zuI τ2 494 (1 + k) 1) 468 45 (nI (1 + (k + 1)))) := (fP.uI (show sPl 494 _ from Or.inr (Or.inr (Or.inr (Or.inl rfl))))).uI (show sPl 468 45 from Or.inr (Or.inr (Or.inr (Or.inr ⟨rfl, by omega, by omega⟩))))
          generalize hτ3 : zuI (zuI τ2 494 (1 + k) 1) 468 45 (nI (1 + (k + 1))) = τ3 at e32 q3 k45 k494 f3
          have K3 : MK τ3 B K L F := ⟨K2.1, (q3 _ _ (by omega) (by omega)).trans K2.2.1, fun i hi => ⟨(q3 _ _ (by omega) (by omega)).trans (K2.2.2.1 i hi).1, (q3 _ _ (by omega) (by omega)).trans (K2.2.2.1 i hi).2⟩, fun g hg => ⟨(q3 _ _ (by omega) (by omega)).trans (K2.2.2.2 g hg).1, (q3 _ _ (by omega) (by omega)).trans (K2.2.2.2 g hg).2⟩⟩
          have mme : ME τ3 4 (aMid (aIt K k c0) ((aNext K (aIt K k c0)).1 + 1, (aNext K (aIt K k c0)).2.1, (aNext K (aIt K k c0)).2.2 - K.2.2.2 f')) := by
            obtain ⟨y1, y2, y3, y4⟩ := z2
            exact ⟨fun a a1 a2 => (q3 _ _ (by omega) (by omega)).trans (y1 a a1 a2), (q3 _ _ (by omega) (by omega)).trans y2, fun j hj => (q3 _ _ (by omega) (by omega)).trans (y3 j hj), fun a i a1 a2 hi => (q3 _ _ (by omega) (by omega)).trans (y4 a i a1 a2 hi)⟩
          obtain ⟨b1, b2, b3, b4⟩ := ref_enter_C (t := 4) (N := N) hw (by omega) ty.1.1 c60 (show 405 < N by omega) K3 f1 ((q3 _ _ (by omega) (by omega)).trans q217) mme (by omega) (fun i hi => (q3 _ _ (by omega) (by omega)).trans (z4 i hi))
          have e41 : τ3.1 468 41 = nI f' := (q3 _ _ (by omega) (by omega)).trans z3
          have e35 : u_X9_goPlain_h3_5 N x 1 τ2 = s_X9_enter (nI 4) (nI f') N τ3 := by
            unfold u_X9_goPlain_h3_5
            rw [e32, e41]
            rfl
          generalize hτ4 : s_X9_enter (nI 4) (nI f') N τ3 = τ4 at b2 b3 b4 e35
          have b2 : τ4.1 469 217 = nI (dp K c0 k + 1) := b2
          have o4 : ∀ q j, ¬ q = 469 → τ4.1 q j = τ3.1 q j := fun q j hq => b4.2 _ _ (fun z => hq z.1)
          have eF4 : f_X9_frames 4 τ4 = nI (dp K c0 k + 1) := b2
          have q493' : τ4.1 493 (dp K c0 k + 1) = nI (cnt K c0 (dp K c0 k + 1) k) := by
            rw [o4 _ _ (by decide), q3 _ _ (by omega) (by omega), q493]
            exact g11 _ (by omega) (by omega)
          have e36 : u_X9_goPlain_h3_6 N x 1 τ2 = zuI τ4 493 (dp K c0 k + 1) (nI (cnt K c0 (dp K c0 k + 1) k + 1)) := by
            unfold u_X9_goPlain_h3_6
            rw [e35, eF4, nI_clamp (by omega), q493', nI_1]
          have hs2 : dp K c0 (k + 1) = dp K c0 k + 1 := by rw [ed, s2, hd1]
          have mm : mxJ K c0 1 (k + 1) = nI (if mo < dp K c0 k + 1 then dp K c0 k + 1 else mo) := by
            show mxI (mxJ K c0 1 k) (nI (dp K c0 (k + 1))) = _
            rw [mo1, hs2]
            unfold mxI
            by_cases cm : mo < dp K c0 k + 1
            · rw [if_pos (nI_lt cm (by omega)), if_pos cm]
            · rw [if_neg (nI_nlt (by omega) (by omega)), if_neg cm]
          have e37 : u_X9_goPlain_h3_7 N x 1 τ2 = zuI (zuI τ4 493 (dp K c0 k + 1) (nI (cnt K c0 (dp K c0 k + 1) k + 1))) 468 46 (mxJ K c0 1 (k + 1)) := by
            unfold u_X9_goPlain_h3_7
            rw [e36, show f_X9_frames 4 (zuI τ4 493 (dp K c0 k + 1) (nI (cnt K c0 (dp K c0 k + 1) k + 1))) = nI (dp K c0 k + 1) from (gI_n (by omega)).trans b2, gI_n (by omega), o4 _ _ (by decide), q3 _ _ (by omega) (by omega), q46, mx_eq]
            show _ = zuI _ 468 46 (mxI (mxJ K c0 1 k) (nI (dp K c0 (k + 1))))
            rw [mo1, hs2]
          have e47 : (zuI (zuI τ4 493 (dp K c0 k + 1) (nI (cnt K c0 (dp K c0 k + 1) k + 1))) 468 46 (mxJ K c0 1 (k + 1))).1 468 47 = slf K x c0 0 k := by
            rw [gI_n (by omega), gI_n (by omega), o4 _ _ (by decide), q3 _ _ (by omega) (by omega), q47]
          have e41' : (zuI (zuI τ4 493 (dp K c0 k + 1) (nI (cnt K c0 (dp K c0 k + 1) k + 1))) 468 46 (mxJ K c0 1 (k + 1))).1 468 41 = nI f' := by
            rw [gI_n (by omega), gI_n (by omega), o4 _ _ (by decide), e41]
          have ec : slf K x c0 0 (k + 1) = slf K x c0 0 k + (if nI f' = x then 1 else 0) := by
            show slf K x c0 0 k + aSelf K x (aIt K k c0) = _
            unfold aSelf
            rw [if_neg (by rw [h8]; decide), if_pos c60, f2]
          -- the state behind it
          have hm1 : (if mo < dp K c0 k + 1 then dp K c0 k + 1 else mo) ≤ 60 ∧ dp K c0 k + 1 ≤ (if mo < dp K c0 k + 1 then dp K c0 k + 1 else mo) := by
            split <;> omega
          have nx : CPo K L F H c0 x B (k + 1) (zuI (zuI (zuI τ4 493 (dp K c0 k + 1) (nI (cnt K c0 (dp K c0 k + 1) k + 1))) 468 46 (mxJ K c0 1 (k + 1))) 468 47 (slf K x c0 0 (k + 1))) ∧ rfr sPl τ (zuI (zuI (zuI τ4 493 (dp K c0 k + 1) (nI (cnt K c0 (dp K c0 k + 1) k + 1))) 468 46 (mxJ K c0 1 (k + 1))) 468 47 (slf K x c0 0 (k + 1))) := by
            have t4 : ∀ q j, ¬ (q = 493 ∧ j = dp K c0 k + 1) → ¬ (q = 468 ∧ (j = 46 ∨ j = 47)) → (zuI (zuI (zuI τ4 493 (dp K c0 k + 1) (nI (cnt K c0 (dp K c0 k + 1) k + 1))) 468 46 (mxJ K c0 1 (k + 1))) 468 47 (slf K x c0 0 (k + 1))).1 q j = τ4.1 q j := fun q j w1 w2 => by rw [gI_n (by omega), gI_n (by omega), gI_n (by omega)]
            have t3 : ∀ q j, ¬ q = 469 → ¬ (q = 493 ∧ j = dp K c0 k + 1) → ¬ (q = 468 ∧ (j = 46 ∨ j = 47)) → (zuI (zuI (zuI τ4 493 (dp K c0 k + 1) (nI (cnt K c0 (dp K c0 k + 1) k + 1))) 468 46 (mxJ K c0 1 (k + 1))) 468 47 (slf K x c0 0 (k + 1))).1 q j = τ3.1 q j := fun q j w0 w1 w2 => (t4 q j w1 w2).trans (o4 q j w0)
            have k46 : (zuI (zuI (zuI τ4 493 (dp K c0 k + 1) (nI (cnt K c0 (dp K c0 k + 1) k + 1))) 468 46 (mxJ K c0 1 (k + 1))) 468 47 (slf K x c0 0 (k + 1))).1 468 46 = mxJ K c0 1 (k + 1) := by rw [gI_n (by omega), gI_h rfl rfl]
            have k47 : (zuI (zuI (zuI τ4 493 (dp K c0 k + 1) (nI (cnt K c0 (dp K c0 k + 1) k + 1))) 468 46 (mxJ K c0 1 (k + 1))) 468 47 (slf K x c0 0 (k + 1))).1 468 47 = slf K x c0 0 (k + 1) := gI_h rfl rfl
            have k493 : (zuI (zuI (zuI τ4 493 (dp K c0 k + 1) (nI (cnt K c0 (dp K c0 k + 1) k + 1))) 468 46 (mxJ K c0 1 (k + 1))) 468 47 (slf K x c0 0 (k + 1))).1 493 (dp K c0 k + 1) = nI (cnt K c0 (dp K c0 k + 1) k + 1) := by rw [gI_n (by omega), gI_n (by omega), gI_h rfl rfl]
            have f5 : rfr sPl τ (zuI (zuI (zuI τ4 493 (dp K c0 k + 1) (nI (cnt K c0 (dp K c0 k + 1) k + 1))) 468 46 (mxJ K c0 1 (k + 1))) 468 47 (slf K x c0 0 (k + 1))) := (((f3.tr (b4.wk (fun q j z => by unfold sE at z; unfold sPl; omega))).uI (show sPl 493 _ from Or.inr (Or.inr (Or.inl rfl)))).uI (show sPl 468 46 from Or.inr (Or.inr (Or.inr (Or.inr ⟨rfl, by omega, by omega⟩))))).uI (show sPl 468 47 from Or.inr (Or.inr (Or.inr (Or.inr ⟨rfl, by omega, by omega⟩))))
            generalize zuI (zuI (zuI τ4 493 (dp K c0 k + 1) (nI (cnt K c0 (dp K c0 k + 1) k + 1))) 468 46 (mxJ K c0 1 (k + 1))) 468 47 (slf K x c0 0 (k + 1)) = τ5 at t4 t3 k46 k47 k493 f5
            refine ⟨⟨⟨K3.1, (t3 _ _ (by omega) (by omega) (by omega)).trans K3.2.1, fun i hi => ⟨(t3 _ _ (by omega) (by omega) (by omega)).trans (K3.2.2.1 i hi).1, (t3 _ _ (by omega) (by omega) (by omega)).trans (K3.2.2.1 i hi).2⟩, fun g hg => ⟨(t3 _ _ (by omega) (by omega) (by omega)).trans (K3.2.2.2 g hg).1, (t3 _ _ (by omega) (by omega) (by omega)).trans (K3.2.2.2 g hg).2⟩⟩, (t3 _ _ (by omega) (by omega) (by omega)).trans k45, k46, k47, ((t4 _ _ (by omega) (by omega)).trans b2).trans (by rw [hs2]), by omega, fun w => ⟨?_, ?_⟩, fun _ w => by omega, ⟨_, mm, by rw [hs2]; exact hm1.2, hm1.1⟩, fun i hi => ?_, fun d d1 d2 => ?_⟩, f5⟩
            · rw [es]
              exact (stp_ty hw ty).2.1 (by rw [← ed]; exact w) (by rw [← ed]; omega)
            · rw [es, s1]
              obtain ⟨y1, y2, y3, y4⟩ := b3
              exact ⟨fun a a1 a2 => (t4 _ _ (by omega) (by omega)).trans (y1 a a1 a2), (t4 _ _ (by omega) (by omega)).trans y2, fun j hj => (t4 _ _ (by omega) (by omega)).trans (y3 j hj), fun a i a1 a2 hi => (t4 _ _ (by omega) (by omega)).trans (y4 a i a1 a2 hi)⟩
            · rw [t3 _ _ (by omega) (by omega) (by omega)]
              by_cases ei : i = k + 1
              · subst ei
                rw [show k + 1 = 1 + k by omega, k494, if_pos]
                rw [show 1 + k - 1 = k by omega, show 1 + k = k + 1 by omega]
                omega
              · rw [q3 _ _ (by omega) (by omega), q494]
                exact g10 i (by omega)
            · show _ = nI (cnt K c0 d k + _)
              by_cases edd : d = dp K c0 k + 1
              · rw [if_pos (by omega), edd, k493]
              · rw [if_neg (by omega), t3 _ _ (by omega) (by omega) (by omega), q3 _ _ (by omega) (by omega), q493, g11 d d1 d2]
                rfl
          have v45 : vp_in (τ2.1 468 45) 2001 := by rw [q45]; exact vp_in_nI (by omega) (by decide)
          have fin : ∀ τ5, CPo K L F H c0 x B (k + 1) τ5 → rfr sPl τ τ5 → q_X9_goPlain N (y + 1) 4 x 1 τ5 ∧ rfr sPl τ (l_X9_goPlain N (y + 1) 4 x 1 τ5).2 ∧ (((l_X9_goPlain N (y + 1) 4 x 1 τ5).1 = 1 ∧ ∃ k', k ≤ k' ∧ 1 + k' ≤ 2000 ∧ (∀ i, k ≤ i → i < k' → 1 ≤ dp K c0 i ∧ dp K c0 i ≤ 60) ∧ dp K c0 k' = 0 ∧ CPo K L F H c0 x B k' (l_X9_goPlain N (y + 1) 4 x 1 τ5).2 ∧ (l_X9_goPlain N (y + 1) 4 x 1 τ5).2.1 468 48 = (l_X9_goPlain N (y + 1) 4 x 1 τ5).2.1 468 42) ∨ ((l_X9_goPlain N (y + 1) 4 x 1 τ5).1 = 0 ∧ ∀ k', k ≤ k' → 1 + k' ≤ 2000 → (∀ i, k ≤ i → i < k' → 1 ≤ dp K c0 i ∧ dp K c0 i ≤ 60) → ¬ dp K c0 k' = 0)) := by
            intro τ5 w1 w2
            rw [q_X9_goPlain, l_X9_goPlain]
            obtain ⟨i1, i2, i3⟩ := ih (k + 1) τ5 (by omega) w1 y 1 (by omega)
            refine ⟨i1, w2.tr i2, ?_⟩
            rcases i3 with ⟨i3, k', k1, k2, k3, k4⟩ | ⟨i3, i4⟩
            · refine Or.inl ⟨i3, k', by omega, k2, fun i w3 w4 => ?_, k4⟩
              by_cases ei : i = k
              · rw [ei]; omega
              · exact k3 i (by omega) w4
            · refine Or.inr ⟨i3, fun k' k1 k2 k3 => ?_⟩
              by_cases ek : k' = k
              · rw [ek]; exact d0
              · exact i4 k' (by omega) k2 (fun i w3 w4 => k3 i (by omega) w4)
          obtain ⟨x1, x2, x3⟩ := fin _ nx.1 nx.2
          have v4 : vp_in (f_X9_frames 4 τ4) 61 := by rw [eF4]; exact vp_in_nI (by omega) (by decide)
          by_cases cf : nI f' = x
          · have e39 : u_X9_goPlain_h3_9 N x 1 τ2 = zuI (zuI (zuI τ4 493 (dp K c0 k + 1) (nI (cnt K c0 (dp K c0 k + 1) k + 1))) 468 46 (mxJ K c0 1 (k + 1))) 468 47 (slf K x c0 0 (k + 1)) := by
              unfold u_X9_goPlain_h3_9
              rw [e37, e47, ec, if_pos cf]
            have hq3 : q_X9_goPlain N (y + 1 + 1) 3 x 1 τ2 := by
              rw [q_X9_goPlain, e37, e41', e39, e35, e32, e41]
              exact ⟨v45, fun z => absurd z n10, fun _ => ⟨b1, pF τ4, v4, pF _, fun z => absurd cf z, fun _ => x1⟩⟩
            rw [l_X9_goPlain, if_neg n10, e37, e41', if_pos cf, e39]
            exact ⟨⟨pF τ, fun _ => ⟨r1, fun z => absurd z (by rw [e2] at e45; exact e45), fun _ => ⟨fun z => absurd z n10, fun _ => ⟨pF τ2, fun _ => hq3, fun z => absurd z n60⟩⟩⟩⟩, x2, x3⟩
          · have e38 : u_X9_goPlain_h3_8 N x 1 τ2 = zuI (zuI (zuI τ4 493 (dp K c0 k + 1) (nI (cnt K c0 (dp K c0 k + 1) k + 1))) 468 46 (mxJ K c0 1 (k + 1))) 468 47 (slf K x c0 0 (k + 1)) := by
              unfold u_X9_goPlain_h3_8
              rw [e37, e47, ec, if_neg cf]
            have hq3 : q_X9_goPlain N (y + 1 + 1) 3 x 1 τ2 := by
              rw [q_X9_goPlain, e37, e41', e38, e35, e32, e41]
              exact ⟨v45, fun z => absurd z n10, fun _ => ⟨b1, pF τ4, v4, pF _, fun _ => x1, fun z => absurd z cf⟩⟩
            rw [l_X9_goPlain, if_neg n10, e37, e41', if_neg cf, e38]
            exact ⟨⟨pF τ, fun _ => ⟨r1, fun z => absurd z (by rw [e2] at e45; exact e45), fun _ => ⟨fun z => absurd z n10, fun _ => ⟨pF τ2, fun _ => hq3, fun z => absurd z n60⟩⟩⟩⟩, x2, x3⟩
        · have y60 : f_X9_frames 4 τ2 = 60 := by
            rw [eF2, show dp K c0 k = 60 by omega]
            rfl
          dsimp only
          rw [if_neg n10, if_pos y60, l_X9_goPlain, q_X9_goPlain]
          refine ⟨⟨pF τ, fun _ => ⟨r1, fun z => absurd z (by rw [e2] at e45; exact e45), fun _ => ⟨fun z => absurd z n10, fun _ => ⟨pF τ2, fun z => absurd y60 z, fun _ => trivial⟩⟩⟩⟩, fP, Or.inr ⟨rfl, fun k' k1 k2 k3 => ?_⟩⟩
          by_cases ek : k' = k
          · rw [ek]; exact d0
          · by_cases ek1 : k' = k + 1
            · rw [ek1, ed, s2]
              decide
            · have := k3 (k + 1) (by omega) (by omega)
              rw [ed, s2] at this
              omega
