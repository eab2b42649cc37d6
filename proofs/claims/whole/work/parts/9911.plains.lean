/-! calls about plain recursion -/
def PF (q1 B : Nat) (K : aK) (L F : Nat) (H : Nat → Nat) (c0 : aC) (x : Int32) (k : Nat) (σ τ : zS) : Prop := 1 + k ≤ 2000 ∧ (∀ i, i < k → 1 ≤ dp K c0 i ∧ dp K c0 i ≤ 60) ∧ dp K c0 k = 0 ∧ CFo K L F H c0 x 1 0 1 384 q1 k σ ∧ σ.1 389 0 = 1 ∧ CPo K L F H c0 x B k τ ∧ τ.1 468 48 = τ.1 468 42
section IS
variable {q1 q2 B W n L F U U1 r p l N : Nat} {K : aK} {H tf rg : Nat → Nat} {gv : Nat → Nat → Int32} {σ σ1 σ2 τ τ1 τ2 : zS} {x1 x2 x3 x4 x5 x6 : Int32}
theorem isFn (h : IV q1 q2 B W n K L F H tf gv p l rg U σ τ) : p_X9_isFunction x1 τ ∧ ((f_X9_isFunction x1 τ = 0 ∧ (x1 < 0 ∨ (¬ x1 < 0 ∧ ¬ x1 < nI F))) ∨ ∃ f, f < F ∧ x1 = nI f ∧ f_X9_isFunction x1 τ = 1 ∧ ¬ x1 < 0 ∧ x1 < nI F) := by
  obtain ⟨a1, a2, a3, a4, a5, a6, -⟩ := h
  have hB := a5.2.1
  have hF := a6.1.2.1
  have e : τ.1 476 (τ.1 468 16).toNatClampNeg = nI F := by rw [a4, nI_clamp (by omega)]; exact a5.2.2.2.2.2.2.2.2.1
  have pv : vp_in (τ.1 468 16) 2 := by rw [a4]; exact vp_in_nI hB (by decide)
  refine ⟨pv, ?_⟩
  have ef : f_X9_isFunction x1 τ = f_X9_isIn x1 0 (nI F - 1) := by
    unfold f_X9_isFunction
    rw [e]
  rw [ef]
  rcases inN (x := x1) (n := F) (by omega) with ⟨e1, e2 | ⟨e2, e3⟩⟩ | ⟨j, hj, rfl, e1⟩
  · exact Or.inl ⟨e1, Or.inl e2⟩
  · exact Or.inl ⟨e1, Or.inr ⟨e2, Int32.not_lt.mpr e3⟩⟩
  · exact Or.inr ⟨j, hj, rfl, e1, nI_pos (by omega), nI_lt hj (by omega)⟩
def four (x2 x3 x4 x5 : Int32) (i : Nat) : Int32 := if i = 0 then x2 else if i = 1 then x3 else if i = 2 then x4 else x5
theorem CL.eq (h : CL σ) (hr : σ1.2 = σ.2) : CL σ1 := by
  unfold CL
  rw [hr]
  exact h
/-- by what is given -/
theorem pr_fp (h : IV q1 q2 B W n K L F H tf gv p l rg U σ τ) (hN : 200000 < N) : p_X8_followPlainly x1 x2 x3 x4 x5 N σ ∧ p_X9_isFunction x1 τ ∧ ((r_X8_followPlainly x1 x2 x3 x4 x5 N σ = (0, σ) ∧ f_X9_isFunction x1 τ = 0) ∨ (f_X9_isFunction x1 τ = 1 ∧ p_X9_goPlain x1 N (s_X9_give x2 x3 x4 x5 τ) ∧ IV q1 q2 B W n K L F H tf gv p l rg U (r_X8_followPlainly x1 x2 x3 x4 x5 N σ).2 (r_X9_goPlain x1 N (s_X9_give x2 x3 x4 x5 τ)).2 ∧ zfr 0 468 σ (r_X8_followPlainly x1 x2 x3 x4 x5 N σ).2 ∧ zfr 468 501 τ (r_X9_goPlain x1 N (s_X9_give x2 x3 x4 x5 τ)).2 ∧ (((r_X8_followPlainly x1 x2 x3 x4 x5 N σ).1 = 0 ∧ (r_X9_goPlain x1 N (s_X9_give x2 x3 x4 x5 τ)).1 = 0) ∨ ((r_X8_followPlainly x1 x2 x3 x4 x5 N σ).1 = 1 ∧ (r_X9_goPlain x1 N (s_X9_give x2 x3 x4 x5 τ)).1 = 1 ∧ ∃ c0 k, c0.1 = 1 ∧ PF q1 B K L F H c0 x1 k (r_X8_followPlainly x1 x2 x3 x4 x5 N σ).2 (r_X9_goPlain x1 N (s_X9_give x2 x3 x4 x5 τ)).2)))) := by
  have hpr := h.pr
  obtain ⟨i1, i2⟩ := isFn (x1 := x1) h
  have e6 : σ.1 q1 6 = nI F := h.2.2.2.2.1.2.2.2.2.2.2.2.1
  rcases i2 with ⟨e, z⟩ | ⟨f, hf, rfl, e, z0, z1⟩
  · refine ⟨?_, i1, Or.inl ⟨?_, e⟩⟩
    · unfold p_X8_followPlainly
      rw [hpr.1, e6]
      rcases z with z | ⟨z0, z⟩
      · exact fun y => absurd z y
      · exact fun _ => ⟨by rw [← hpr.1]; exact hpr.2.1, fun y => absurd y z⟩
    · unfold r_X8_followPlainly
      rw [hpr.1, e6]
      rcases z with z | ⟨z0, z⟩
      · rw [if_pos z]
      · rw [if_neg z0, if_neg z]
  · have e4 : u_X8_followPlainly_4 (nI f) x2 x3 x4 x5 N σ = zuI (zuI (zuI (zuI σ 391 0 x2) 391 1 x3) 391 2 x4) 391 3 x5 := by
      unfold u_X8_followPlainly_4 u_X8_followPlainly_3 u_X8_followPlainly_2 u_X8_followPlainly_1
      rw [show s_X8_put 4 391 0 x2 σ = zuI σ 391 0 x2 from put_i (i := 0) (by decide) (by decide), show s_X8_put 4 391 1 x3 (zuI σ 391 0 x2) = zuI (zuI σ 391 0 x2) 391 1 x3 from put_i (i := 1) (by decide) (by decide), show s_X8_put 4 391 2 x4 (zuI (zuI σ 391 0 x2) 391 1 x3) = zuI (zuI (zuI σ 391 0 x2) 391 1 x3) 391 2 x4 from put_i (i := 2) (by decide) (by decide)]
      exact put_i (i := 3) (by decide) (by decide)
    have eg : s_X9_give x2 x3 x4 x5 τ = zuI (zuI (zuI (zuI τ 492 0 x2) 492 1 x3) 492 2 x4) 492 3 x5 := rfl
    have k1 : ∀ i, i < 4 → (zuI (zuI (zuI (zuI σ 391 0 x2) 391 1 x3) 391 2 x4) 391 3 x5).1 391 (0 + i) = four x2 x3 x4 x5 i := fun i hi => by
      rcases (show i = 0 ∨ i = 1 ∨ i = 2 ∨ i = 3 by omega) with rfl | rfl | rfl | rfl <;> simp (disch := omega) only [gI_n, gI_h] <;> rfl
    have k2 : ∀ i, i < 4 → (zuI (zuI (zuI (zuI τ 492 0 x2) 492 1 x3) 492 2 x4) 492 3 x5).1 492 i = four x2 x3 x4 x5 i := fun i hi => by
      rcases (show i = 0 ∨ i = 1 ∨ i = 2 ∨ i = 3 by omega) with rfl | rfl | rfl | rfl <;> simp (disch := omega) only [gI_n, gI_h] <;> rfl
    rw [eg]
    have so : ∀ q j, ¬ q = 391 → (zuI (zuI (zuI (zuI σ 391 0 x2) 391 1 x3) 391 2 x4) 391 3 x5).1 q j = σ.1 q j := fun q j z => by rw [gI_n (by omega), gI_n (by omega), gI_n (by omega), gI_n (by omega)]
    have to : ∀ q j, ¬ q = 492 → (zuI (zuI (zuI (zuI τ 492 0 x2) 492 1 x3) 492 2 x4) 492 3 x5).1 q j = τ.1 q j := fun q j z => by rw [gI_n (by omega), gI_n (by omega), gI_n (by omega), gI_n (by omega)]
    have sr : (zuI (zuI (zuI (zuI σ 391 0 x2) 391 1 x3) 391 2 x4) 391 3 x5).2 = σ.2 := rfl
    have tr : (zuI (zuI (zuI (zuI τ 492 0 x2) 492 1 x3) 492 2 x4) 492 3 x5).2 = τ.2 := rfl
    generalize zuI (zuI (zuI (zuI σ 391 0 x2) 391 1 x3) 391 2 x4) 391 3 x5 = σ4 at e4 k1 so sr
    generalize zuI (zuI (zuI (zuI τ 492 0 x2) 492 1 x3) 492 2 x4) 492 3 x5 = τ4 at k2 to tr
    have hq := hpr.2.2
    obtain ⟨b1, ⟨b2a, b2b⟩, ⟨b3, b3b, b3c, b3d⟩, b4, b5⟩ := h.2.2.2.2.2.1
    have h4 := (b1.2.2.1 f hf).2.2
    have C4 : CK σ4 q1 K L F := ⟨fun i hi => by rw [so _ _ (by omega), so _ _ (by omega)]; exact b2a i hi, fun g hg => by rw [so _ _ (by omega), so _ _ (by omega)]; exact b2b g hg⟩
    have M4 : MK τ4 B K L F := ⟨b3, (to _ _ (by decide)).trans b3b, fun i hi => by rw [to _ _ (by decide), to _ _ (by decide)]; exact b3c i hi, fun g hg => by rw [to _ _ (by decide), to _ _ (by decide)]; exact b3d g hg⟩
    obtain ⟨w1, w2, w3, w4, w5, w6⟩ := pr_whole (N := N) (o := 384) (g := four x2 x3 x4 x5) (fr := 0) (n3 := 4) (q3 := 391) b1 (by omega) (by omega) (by omega) (by omega) (by decide) C4 (by rw [sr]; exact h.2.2.2.2.2.2.2.2.1.2.2.2.2) hf (fun i hi => k1 i (by omega)) M4 (fun i hi => k2 i (by omega))
    have e5 : σ4.2 0 5 - 1 = q1 := by rw [sr]; exact hpr.1
    have er : r_X8_followPlainly (nI f) x2 x3 x4 x5 N σ = r_X7_followWhole 384 q1 (nI f) 4 391 (nI 0) N σ4 := by
      unfold r_X8_followPlainly u_X8_followPlainly_5
      rw [hpr.1, e6, if_neg z0, if_pos z1, e4, e5]
      rfl
    have fs : zfr 0 468 σ (r_X7_followWhole 384 q1 (nI f) 4 391 (nI 0) N σ4).2 := fun q hq1 => ⟨funext fun j => by rw [w3.at (by omega), so _ _ (by omega)], by rw [w4, sr]⟩
    have ft : zfr 468 501 τ (r_X9_goPlain (nI f) N τ4).2 := fun q hq1 => ⟨funext fun j => by rw [w5.2 _ _ (fun z => by unfold sPl at z; omega), to _ _ (by omega)], by rw [w5.1, tr]⟩
    have hiv : IV q1 q2 B W n K L F H tf gv p l rg U (r_X7_followWhole 384 q1 (nI f) 4 391 (nI 0) N σ4).2 (r_X9_goPlain (nI f) N τ4).2 := by
      refine h.scr (fun q hq1 => ⟨funext fun j => ?_, by rw [w4, sr]⟩) (h.2.2.2.2.2.2.2.2.1.eq (w4.trans sr)) (fun q j hq1 => ?_)
      · have : ¬ ((359 ≤ q ∧ q < 394) ∨ (444 ≤ q ∧ q < 468)) := hq1
        rw [w3.at (by omega), so _ _ (by omega)]
      · have : ¬ ((q = 469 ∧ ((216 ≤ j ∧ j < 236) ∨ 11440 ≤ j)) ∨ (492 ≤ q ∧ q ≤ 497) ∨ (q = 468 ∧ 41 ≤ j ∧ j ≤ 48)) := hq1
        rw [w5.2 _ _ (fun z => by unfold sPl at z; omega), to _ _ (by omega)]
    rw [er]
    refine ⟨?_, i1, Or.inr ⟨e, w2, hiv, fs, ft, ?_⟩⟩
    · unfold p_X8_followPlainly
      rw [hpr.1, e6, e4, e5]
      exact fun _ => ⟨by rw [← hpr.1]; exact hpr.2.1, fun _ => ⟨put_p (by decide), put_p (by decide), put_p (by decide), put_p (by decide), ⟨by rw [sr]; exact hpr.2.1.1, lay_pr hq⟩, w1⟩⟩
    · rcases w6 with ⟨u1, u2, k', u3, u4, u5, u6, u7, u8, u9⟩ | ⟨u1, u2, -⟩
      · exact Or.inr ⟨u1, u2, _, k', rfl, u3, u4, u5, u6, u7, u8, u9⟩
      · exact Or.inl ⟨u1, u2⟩
/-- a task's -/
theorem pr_ft (h : IV q1 q2 B W n K L F H tf gv p l rg U σ τ) (hN : 200000 < N) : p_X8_followTask x1 N σ ∧ p_X9_isTask x1 τ ∧ ((r_X8_followTask x1 N σ = (0, σ) ∧ f_X9_isTask x1 τ = 0 ∧ f_X8_isTask x1 σ = 0) ∨ (∃ t, t < n ∧ x1 = nI t ∧ f_X8_isTask x1 σ = 1 ∧ f_X9_isTask x1 τ = 1 ∧ p_X9_goTaskPlain x1 N τ ∧ IV q1 q2 B W n K L F H tf gv p l rg U (r_X8_followTask x1 N σ).2 (r_X9_goTaskPlain x1 N τ).2 ∧ IV q1 q2 B W n K L F H tf gv p l rg U σ (r_X9_goTaskPlain x1 N τ).2 ∧ (∀ q, ¬ scC q → (r_X8_followTask x1 N σ).2.1 q = σ.1 q ∧ (r_X8_followTask x1 N σ).2.2 q = σ.2 q) ∧ (r_X8_followTask x1 N σ).2.2 = σ.2 ∧ zfr 0 468 σ (r_X8_followTask x1 N σ).2 ∧ rfr sPl τ (r_X9_goTaskPlain x1 N τ).2 ∧ (((r_X8_followTask x1 N σ).1 = 0 ∧ (r_X9_goTaskPlain x1 N τ).1 = 0 ∧ ∀ k, 1 + k ≤ 2000 → (∀ i, i < k → 1 ≤ dp K (aBegin K (tf t) (gv t)) i ∧ dp K (aBegin K (tf t) (gv t)) i ≤ 60) → ¬ dp K (aBegin K (tf t) (gv t)) k = 0) ∨ ((r_X8_followTask x1 N σ).1 = 1 ∧ (r_X9_goTaskPlain x1 N τ).1 = 1 ∧ ∃ k, PF q1 B K L F H (aBegin K (tf t) (gv t)) (nI (tf t)) k (r_X8_followTask x1 N σ).2 (r_X9_goTaskPlain x1 N τ).2)))) := by
  have hpr := h.pr
  have hq := hpr.2.2
  obtain ⟨i1, i2, i3⟩ := isT (x := x1) h
  have n10 : ¬ (1 : Int32) = 0 := by decide
  rcases i3 with ⟨e1, e2⟩ | ⟨t, ht, rfl, e1, e2⟩
  · refine ⟨⟨i1, fun y => absurd e1 y⟩, i2, Or.inl ⟨?_, e2, e1⟩⟩
    unfold r_X8_followTask
    rw [e1, if_pos rfl]
  · have a4 := h.2.2.2.1
    obtain ⟨b1, b2, b3, b4, b5⟩ := h.2.2.2.2.2.1
    obtain ⟨d1, d2, d3, d4⟩ := b5 t ht
    have hB := b3.1
    obtain ⟨g1, g2, g3⟩ := rf_give (N := N) (g := gv t) (show t < 4 by omega) hB 4 0 τ rfl a4 (fun i hi => (d4 i hi).2) N (by omega)
    have eg : u_X9_goTaskPlain_1 (nI t) N τ = l_X9_giveTask N N (nI t) (nI 0) τ := rfl
    generalize l_X9_giveTask N N (nI t) (nI 0) τ = τ4 at g2 g3 eg
    have M4 : MK τ4 B K L F := b3.fr g3 (fun q j z => by omega)
    have ef : f_X9_functionOf (nI t) τ4 = nI (tf t) := by
      unfold f_X9_functionOf
      rw [g3.2 468 16 (by omega), a4, show (4 : Int32) * nI B + nI t = nI (4 * B + t) by rw [(show (4 : Int32) = nI 4 from rfl), pk_mul, nI_add], nI_clamp (by omega), g3.2 _ _ (by omega), d3]
    have pf : p_X9_functionOf (nI t) τ4 := by
      unfold p_X9_functionOf
      rw [g3.2 468 16 (by omega), a4, show (4 : Int32) * nI B + nI t = nI (4 * B + t) by rw [(show (4 : Int32) = nI 4 from rfl), pk_mul, nI_add]]
      exact vp_in_nI (by omega) (by decide)
    have h4 := (b1.2.2.1 (tf t) d1).2.2
    obtain ⟨w1, w2, w3, w4, w5, w6⟩ := pr_whole (N := N) (o := 384) (g := gv t) (fr := t * 4) (n3 := 16) (q3 := q1 + 4) b1 (by omega) (by omega) (by omega) (by omega) (by decide) b2 h.2.2.2.2.2.2.2.2.1.2.2.2.2 d1 (fun i hi => (d4 i (by omega)).1) M4 (fun i hi => g2 i (by omega) (by omega))
    have ea : f_X8_at 4 (q1 + 3) (nI t) σ = nI (tf t) := by rw [at_i (by omega) (by decide), d2]
    have e4 : nI t * 4 = nI (t * 4) := pk_mul t 4
    have em : r_X9_goTaskPlain (nI t) N τ = r_X9_goPlain (nI (tf t)) N τ4 := by
      unfold r_X9_goTaskPlain u_X9_goTaskPlain_2
      rw [eg, ef]
    have hb01 : (r_X7_followWhole 384 q1 (nI (tf t)) 16 (q1 + 4) (nI (t * 4)) N σ).1 = 0 ∨ (r_X7_followWhole 384 q1 (nI (tf t)) 16 (q1 + 4) (nI (t * 4)) N σ).1 = 1 := b_X7_followWhole
    have ec : r_X8_followTask (nI t) N σ = r_X7_followWhole 384 q1 (nI (tf t)) 16 (q1 + 4) (nI (t * 4)) N σ := by
      unfold r_X8_followTask u_X8_followTask_1
      rw [e1, if_neg n10, hpr.1, ea, e4]
      rcases hb01 with z | z
      · rw [if_pos z]
        exact Prod.ext z.symm rfl
      · rw [if_neg (by rw [z]; decide)]
        exact Prod.ext z.symm rfl
    have fz : rfr sPl τ (r_X9_goPlain (nI (tf t)) N τ4).2 := (g3.wk (fun q j z => Or.inr (Or.inl z.1))).tr w5
    have hs : ∀ q, ¬ scC q → (r_X7_followWhole 384 q1 (nI (tf t)) 16 (q1 + 4) (nI (t * 4)) N σ).2.1 q = σ.1 q ∧ (r_X7_followWhole 384 q1 (nI (tf t)) 16 (q1 + 4) (nI (t * 4)) N σ).2.2 q = σ.2 q := fun q hq1 => by
      have : ¬ ((359 ≤ q ∧ q < 394) ∨ (444 ≤ q ∧ q < 468)) := hq1
      exact ⟨(w3 q (by omega)).1, by rw [w4]⟩
    have hm : ∀ q j, ¬ scM q j → (r_X9_goPlain (nI (tf t)) N τ4).2.1 q j = τ.1 q j := fun q j hq1 => by
      have : ¬ ((q = 469 ∧ ((216 ≤ j ∧ j < 236) ∨ 11440 ≤ j)) ∨ (492 ≤ q ∧ q ≤ 497) ∨ (q = 468 ∧ 41 ≤ j ∧ j ≤ 48)) := hq1
      exact fz.2 _ _ (fun z => by unfold sPl at z; omega)
    have hc := h.2.2.2.2.2.2.2.2.1
    refine ⟨?_, i2, Or.inr ⟨t, ht, rfl, e1, e2, ?_, ?_⟩⟩
    · unfold p_X8_followTask
      rw [hpr.1, ea, e4]
      exact ⟨i1, fun _ => ⟨by rw [← hpr.1]; exact hpr.2.1, at_p (by decide), w1⟩⟩
    · unfold p_X9_goTaskPlain
      rw [eg, ef]
      refine ⟨g1, pf, w2, ?_⟩
      rcases w6 with ⟨-, u2, -⟩ | ⟨-, u2, -⟩
      · exact Or.inr u2
      · exact Or.inl u2
    · rw [ec, em]
      refine ⟨h.scr hs (hc.eq w4) hm, h.scr (fun q _ => ⟨rfl, rfl⟩) hc hm, hs, w4, w3.wk (by omega), fz, ?_⟩
      rcases w6 with ⟨u1, u2, k', u3, u4, u5, u6, u7, u8, u9⟩ | ⟨u1, u2, u3⟩
      · exact Or.inr ⟨u1, u2, k', u3, u4, u5, u6, u7, u8, u9⟩
      · exact Or.inl ⟨u1, u2, u3⟩
theorem sPl_z {q j : Nat} (h : q < 468 ∨ 501 ≤ q) : ¬ sPl q j := fun z => by
  unfold sPl at z
  omega
theorem PF.k1 {c0 : aC} {k : Nat} (hc : c0.1 = 1) (h : PF q1 B K L F H c0 x1 k σ τ) : 1 ≤ k := by
  have h3 := h.2.2.1
  rcases Nat.eq_zero_or_pos k with e | e
  · rw [e] at h3
    have : c0.1 = 0 := h3
    omega
  · exact e
theorem pr_plain (h : Inv U σ τ) (hN : 200000 < N) : PR2 U (p_X8_plain x1 x2 x3 x4 x5 N σ) (p_X9_plain x1 x2 x3 x4 x5 N τ) (r_X8_plain x1 x2 x3 x4 x5 N σ) (r_X9_plain x1 x2 x3 x4 x5 N τ) σ τ := by
  have hI := h
  obtain ⟨q1, q2, B, W, n, K, L, F, H, tf, gv, p, l, rg, h⟩ := h
  have n10 : ¬ (1 : Int32) = 0 := by decide
  obtain ⟨a1, a2, a3⟩ := pr_fp (x1 := x1) (x2 := x2) (x3 := x3) (x4 := x4) (x5 := x5) h hN
  have eg : u_X9_plain_1 x1 x2 x3 x4 x5 N τ = s_X9_give x2 x3 x4 x5 τ := rfl
  rcases a3 with ⟨e1, e2⟩ | ⟨e1, e2, e3, e4, e5, e6⟩
  · refine pr_same hI (Nat.le_refl _) a1 ⟨a2, fun y => absurd e2 y⟩ (x := 0) (y := 0) ?_ ?_ rfl
    · unfold r_X8_plain u_X8_plain_1
      rw [e1, if_pos rfl]
    · unfold r_X9_plain
      rw [e2, if_pos rfl]
  · unfold PR2 r_X8_plain u_X8_plain_1 r_X9_plain u_X9_plain_2
    rw [e1, if_neg n10, eg]
    refine ⟨a1, ⟨a2, fun _ => e2⟩, ?_⟩
    rcases e6 with ⟨z1, z2⟩ | ⟨z1, z2, c0, k, hc, z3⟩
    · rw [z1, z2, if_pos rfl, if_pos rfl]
      exact ⟨rfl, ⟨q1, q2, B, W, n, K, L, F, H, tf, gv, p, l, rg, e3⟩, e4, e5⟩
    · rw [z1, z2, if_neg n10, if_neg n10]
      refine ⟨?_, ⟨q1, q2, B, W, n, K, L, F, H, tf, gv, p, l, rg, e3⟩, e4, e5⟩
      have hk := z3.k1 hc
      obtain ⟨-, -, y3, y4, -, y6, y7⟩ := z3
      show (r_X8_followPlainly x1 x2 x3 x4 x5 N σ).2.1 385 3 = (r_X9_goPlain x1 N (s_X9_give x2 x3 x4 x5 τ)).2.1 468 48
      rw [y7, y4.2.2.2.2.2.2.2.2.1 hk y3, y6.2.2.2.2.2.2.2.1 hk y3]
theorem pr_profile (h : Inv U σ τ) (hN : 200000 < N) : PR2 U (p_X8_profile x1 x2 x3 x4 x5 x6 N σ) (p_X9_profile x1 x2 x3 x4 x5 x6 N τ) (r_X8_profile x1 x2 x3 x4 x5 x6 N σ) (r_X9_profile x1 x2 x3 x4 x5 x6 N τ) σ τ := by
  have hI := h
  obtain ⟨q1, q2, B, W, n, K, L, F, H, tf, gv, p, l, rg, h⟩ := h
  have n10 : ¬ (1 : Int32) = 0 := by decide
  obtain ⟨a1, a2, a3⟩ := pr_fp (x1 := x1) (x2 := x2) (x3 := x3) (x4 := x4) (x5 := x5) h hN
  have eg : u_X9_profile_1 x1 x2 x3 x4 x5 x6 N τ = s_X9_give x2 x3 x4 x5 τ := rfl
  by_cases c0 : x6 < 0
  · refine pr_same hI (Nat.le_refl _) (fun y => absurd c0 y) ⟨a2, fun _ y => absurd (isIn_lo c0) y⟩ (x := -1) (y := -1) ?_ ?_ rfl
    · unfold r_X8_profile
      rw [if_pos c0]
    · unfold r_X9_profile
      rw [isIn_lo c0, if_pos rfl]
      by_cases z : f_X9_isFunction x1 τ = 0
      · rw [if_pos z]
      · rw [if_neg z]
  · by_cases c2 : 2 < x6
    · refine pr_same hI (Nat.le_refl _) (fun _ y => absurd c2 y) ⟨a2, fun _ y => absurd (isIn_hi c2) y⟩ (x := -1) (y := -1) ?_ ?_ rfl
      · unfold r_X8_profile
        rw [if_neg c0, if_pos c2]
      · unfold r_X9_profile
        rw [isIn_hi c2, if_pos rfl]
        by_cases z : f_X9_isFunction x1 τ = 0
        · rw [if_pos z]
        · rw [if_neg z]
    · have ei : f_X9_isIn x6 0 2 = 1 := isIn_in c0 c2
      rcases a3 with ⟨e1, e2⟩ | ⟨e1, e2, e3, e4, e5, e6⟩
      · refine pr_same hI (Nat.le_refl _) (fun _ _ => a1) ⟨a2, fun y => absurd e2 y⟩ (x := -1) (y := -1) ?_ ?_ rfl
        · unfold r_X8_profile u_X8_profile_1
          rw [if_neg c0, if_neg c2, e1, if_pos rfl]
        · unfold r_X9_profile
          rw [e2, if_pos rfl]
      · unfold PR2 r_X8_profile u_X8_profile_1 r_X9_profile u_X9_profile_2
        rw [e1, if_neg n10, eg, if_neg c0, if_neg c2, ei, if_neg n10]
        refine ⟨fun _ _ => a1, ⟨a2, fun _ _ => e2⟩, ?_⟩
        have hI' : Inv U (r_X8_followPlainly x1 x2 x3 x4 x5 N σ).2 (r_X9_goPlain x1 N (s_X9_give x2 x3 x4 x5 τ)).2 := ⟨q1, q2, B, W, n, K, L, F, H, tf, gv, p, l, rg, e3⟩
        rcases e6 with ⟨z1, z2⟩ | ⟨z1, z2, c0, k, hc, z3⟩
        · rw [z1, z2, if_pos rfl, if_pos rfl]
          exact ⟨rfl, hI', e4, e5⟩
        · obtain ⟨-, -, y3, y4, -, y6, y7⟩ := z3
          rw [z1, z2, if_neg n10, if_neg n10]
          by_cases d0 : x6 = 0
          · rw [if_pos d0, if_pos d0]
            exact ⟨y4.2.2.1.trans y6.2.1.symm, hI', e4, e5⟩
          · rw [if_neg d0, if_neg d0]
            by_cases d1 : x6 = 1
            · rw [if_pos d1, if_pos d1]
              exact ⟨y4.2.2.2.1.trans y6.2.2.1.symm, hI', e4, e5⟩
            · rw [if_neg d1, if_neg d1]
              exact ⟨y4.2.2.2.2.1.trans y6.2.2.2.1.symm, hI', e4, e5⟩
/-- how often there are so many FRAMES -/
theorem cl_times {c0 : aC} {k d : Nat} (hk : 1 + k ≤ 2000) (h2 : σ.1 384 2 = nI (1 + k)) (hd : ∀ i, i ≤ k → σ.1 389 i = nI (dp K c0 i)) (hb : ∀ i, i ≤ k → dp K c0 i ≤ 61) (hd1 : 1 ≤ d ∧ d ≤ 60) : ∀ (m i : Nat), i + m = 1 + k → ∀ z, m < z → q_X7_timesAt 384 N z (nI d) (if i = 0 then 0 else nI (cnt K c0 d (i - 1))) (if i = 0 then 0 else nI (dp K c0 (i - 1))) (nI i) σ ∧ l_X7_timesAt 384 N z (nI d) (if i = 0 then 0 else nI (cnt K c0 d (i - 1))) (if i = 0 then 0 else nI (dp K c0 (i - 1))) (nI i) σ = nI (cnt K c0 d k) := by
  intro m
  induction m with
  | zero =>
    intro i hi z hz
    obtain ⟨z, rfl⟩ : ∃ y, z = y + 1 := ⟨z - 1, by omega⟩
    have c : nI (1 + k) ≤ nI i := nI_le (by omega) (by omega)
    rw [q_X7_timesAt, l_X7_timesAt, h2, if_pos c]
    refine ⟨fun y => absurd c y, ?_⟩
    rw [if_neg (by omega), show i - 1 = k by omega]
  | succ m ih =>
    intro i hi z hz
    obtain ⟨z, rfl⟩ : ∃ y, z = y + 1 := ⟨z - 1, by omega⟩
    have c : ¬ nI (1 + k) ≤ nI i := nI_ge (by omega) (by omega)
    obtain ⟨j1, j2⟩ := ih (i + 1) (by omega) z (by omega)
    rw [if_neg (by omega), if_neg (by omega), Nat.add_sub_cancel] at j1 j2
    have ea : f_X8_at 3000 (384 + 5) (nI i) σ = nI (dp K c0 i) := by rw [at_i (by omega) (by decide)]; exact hd i (by omega)
    have bi := hb i (by omega)
    rw [q_X7_timesAt, l_X7_timesAt, h2, if_neg c, ea, nI_1]
    have z0 : ∀ x : Int32, x + 0 = x := fun x => by simp
    have key : ∀ y, cnt K c0 d i = y → (nI (dp K c0 i) = nI d → nI (dp K c0 i) ≤ (if i = 0 then 0 else nI (dp K c0 (i - 1))) → nI y = (if i = 0 then 0 else nI (cnt K c0 d (i - 1)))) ∧ (nI (dp K c0 i) = nI d → ¬ nI (dp K c0 i) ≤ (if i = 0 then 0 else nI (dp K c0 (i - 1))) → nI y = (if i = 0 then 0 else nI (cnt K c0 d (i - 1))) + 1) ∧ (¬ nI (dp K c0 i) = nI d → nI y = (if i = 0 then 0 else nI (cnt K c0 d (i - 1)))) := fun y hy => by
      rcases Nat.eq_zero_or_pos i with e | e
      · subst e
        rw [if_pos rfl, if_pos rfl]
        have e0 : cnt K c0 d 0 = if dp K c0 0 = d then 1 else 0 := rfl
        rw [e0] at hy
        refine ⟨fun a b => ?_, fun a b => ?_, fun a => ?_⟩
        · have a1 := (nI_eq (by omega) (by omega)).mp a
          rw [a1] at b
          exact absurd b (nI_nle (by omega) (by omega))
        · have a1 := (nI_eq (by omega) (by omega)).mp a
          rw [← hy, if_pos a1]
          rfl
        · rw [← hy, if_neg (fun w => a (by rw [w]))]
          rfl
      · obtain ⟨j, rfl⟩ : ∃ j, i = j + 1 := ⟨i - 1, by omega⟩
        have bj := hb j (by omega)
        have e0 : cnt K c0 d (j + 1) = cnt K c0 d j + if dp K c0 j < dp K c0 (j + 1) ∧ dp K c0 (j + 1) = d then 1 else 0 := rfl
        rw [if_neg (by omega), if_neg (by omega), Nat.add_sub_cancel]
        rw [e0] at hy
        refine ⟨fun a b => ?_, fun a b => ?_, fun a => ?_⟩
        · have b1 := (nI_leI (by omega) (by omega)).mp b
          rw [← hy, if_neg (by omega)]
          rfl
        · have a1 := (nI_eq (by omega) (by omega)).mp a
          have b1 : ¬ dp K c0 (j + 1) ≤ dp K c0 j := fun w => b ((nI_leI (by omega) (by omega)).mpr w)
          rw [← hy, if_pos (by omega), nI_1]
        · rw [← hy, if_neg (fun w => a (by rw [w.2]))]
          rfl
    obtain ⟨k1, k2, k3⟩ := key _ rfl
    by_cases a : nI (dp K c0 i) = nI d
    · by_cases b : nI (dp K c0 i) ≤ (if i = 0 then 0 else nI (dp K c0 (i - 1)))
      · rw [if_pos a, if_pos b, z0, ← k1 a b]
        exact ⟨fun _ => ⟨at_p (by decide), fun y => absurd a y, fun _ => ⟨fun _ => j1, fun y => absurd b y⟩⟩, j2⟩
      · rw [if_pos a, if_neg b, ← k2 a b]
        exact ⟨fun _ => ⟨at_p (by decide), fun y => absurd a y, fun _ => ⟨fun y => absurd y b, fun _ => j1⟩⟩, j2⟩
    · rw [if_neg a, z0, ← k3 a]
      exact ⟨fun _ => ⟨at_p (by decide), fun _ => j1, fun y => absurd y a⟩, j2⟩
theorem PF.dps {c0 : aC} {k : Nat} (hc : c0.1 = 1) (h : PF q1 B K L F H c0 x1 k σ τ) : ∀ i, i ≤ k → σ.1 389 i = nI (dp K c0 i) ∧ dp K c0 i ≤ 60 := by
  intro i hi
  obtain ⟨y1, y2, y3, y4, y5, y6, y7⟩ := h
  refine ⟨?_, ?_⟩
  · rcases Nat.eq_zero_or_pos i with e | e
    · rw [e, y5]
      show (1 : Int32) = nI c0.1
      rw [hc]
      rfl
    · have := y4.2.2.2.2.2.2.2.2.2 (i - 1) (by omega)
      rw [show i - 1 + 1 = i by omega, show 1 + (i - 1) = i by omega] at this
      exact this
  · by_cases e : i = k
    · rw [e, y3]
      omega
    · exact (y2 i (by omega)).2
theorem pr_depths (h : Inv U σ τ) (hN : 200000 < N) : PR2 U (p_X8_depths x1 x2 N σ) (p_X9_depths x1 x2 N τ) (r_X8_depths x1 x2 N σ) (r_X9_depths x1 x2 N τ) σ τ := by
  have hI := h
  obtain ⟨q1, q2, B, W, n, K, L, F, H, tf, gv, p, l, rg, h⟩ := h
  have n10 : ¬ (1 : Int32) = 0 := by decide
  obtain ⟨a1, a2, a3⟩ := pr_ft (x1 := x1) h hN
  have hm : (x2 < 1 ∨ (¬ x2 < 1 ∧ 60 < x2)) → f_X9_isIn x2 1 60 = 0 → PR2 U (p_X8_depths x1 x2 N σ) (p_X9_depths x1 x2 N τ) (r_X8_depths x1 x2 N σ) (r_X9_depths x1 x2 N τ) σ τ := fun z e => by
    refine pr_same hI (Nat.le_refl _) ?_ ⟨a2, fun _ y => absurd e y⟩ (x := -1) (y := -1) ?_ ?_ rfl
    · rcases z with z | ⟨z0, z⟩
      · exact fun y => absurd z y
      · exact fun _ y => absurd z y
    · unfold r_X8_depths
      rcases z with z | ⟨z0, z⟩
      · rw [if_pos z]
      · rw [if_neg z0, if_pos z]
    · unfold r_X9_depths
      rw [e, if_pos rfl]
      by_cases y : f_X9_isTask x1 τ = 0
      · rw [if_pos y]
      · rw [if_neg y]
  by_cases c0 : x2 < 1
  · exact hm (Or.inl c0) (isIn_lo c0)
  · by_cases c1 : 60 < x2
    · exact hm (Or.inr ⟨c0, c1⟩) (isIn_hi c1)
    · have ei : f_X9_isIn x2 1 60 = 1 := isIn_in c0 c1
      rcases a3 with ⟨e1, e2, e3⟩ | ⟨t, ht, rfl, e0, e1, e2, e3, -, e4, e5, e6, e7, e8⟩
      · refine pr_same hI (Nat.le_refl _) (fun _ _ => ⟨a1, fun y => absurd (by rw [e1]) y⟩) ⟨a2, fun y => absurd e2 y⟩ (x := -1) (y := -1) ?_ ?_ rfl
        · unfold r_X8_depths u_X8_depths_1
          rw [if_neg c0, if_neg c1, e1, if_pos rfl]
        · unfold r_X9_depths
          rw [e2, if_pos rfl]
      · have hI' : Inv U (r_X8_followTask (nI t) N σ).2 (r_X9_goTaskPlain (nI t) N τ).2 := ⟨q1, q2, B, W, n, K, L, F, H, tf, gv, p, l, rg, e3⟩
        have fz : zfr 468 501 τ (r_X9_goTaskPlain (nI t) N τ).2 := fun q hq1 => ⟨funext fun j => e7.2 q j (sPl_z hq1), by rw [e7.1]⟩
        obtain ⟨d, d1, d2, rfl⟩ := in_lo (n := 60) c0 c1 (by decide)
        unfold PR2 p_X8_depths p_X9_depths r_X8_depths u_X8_depths_1 r_X9_depths u_X9_depths_1
        rw [e1, if_neg n10, if_neg c0, if_neg c1, ei, if_neg n10]
        rcases e8 with ⟨z1, z2, -⟩ | ⟨z1, z2, k, z3⟩
        · rw [z1, z2, if_pos rfl, if_pos rfl]
          exact ⟨fun _ _ => ⟨a1, fun y => absurd rfl y⟩, ⟨a2, fun _ _ => ⟨e2, fun y => absurd rfl y⟩⟩, rfl, hI', e6, fz⟩
        · have hd := z3.dps rfl
          obtain ⟨y1, y2, y3, y4, -, y6, y7⟩ := z3
          obtain ⟨u1, u2⟩ := cl_times (N := N) (d := d) y1 y4.2.2.1 (fun i hi => (hd i hi).1) (fun i hi => by have := (hd i hi).2; omega) ⟨d1, d2⟩ (1 + k) 0 (by omega) N (by omega)
          rw [z1, z2, if_neg n10, if_neg n10]
          refine ⟨fun _ _ => ⟨a1, fun _ => u1⟩, ⟨a2, fun _ _ => ⟨e2, fun _ => vp_in_nI (by omega) (by decide)⟩⟩, ?_, hI', e6, fz⟩
          show f_X7_timesAt 384 (nI d) N (r_X8_followTask (nI t) N σ).2 = (r_X9_goTaskPlain (nI t) N τ).2.1 493 (nI d).toNatClampNeg
          rw [nI_clamp (by omega), y6.2.2.2.2.2.2.2.2.2.2 d d1 d2]
          exact u2
theorem pr_suits (h : Inv U σ τ) (hN : 200000 < N) : PR2 U (p_X8_suits x1 N σ) (p_X9_suits x1 N τ) (r_X8_suits x1 N σ) (r_X9_suits x1 N τ) σ τ := by
  have hI := h
  obtain ⟨q1, q2, B, W, n, K, L, F, H, tf, gv, p, l, rg, h⟩ := h
  have n10 : ¬ (1 : Int32) = 0 := by decide
  obtain ⟨a1, a2, a3⟩ := pr_ft (x1 := x1) h hN
  rcases a3 with ⟨e1, e2, e3⟩ | ⟨t, ht, rfl, e0, e1, e2, e3, -, e4, e5, e6, e7, e8⟩
  · refine pr_same hI (Nat.le_refl _) a1 ⟨a2, fun y => absurd e2 y⟩ (x := -1) (y := -1) ?_ ?_ rfl
    · unfold r_X8_suits u_X8_suits_1
      rw [e1, if_pos rfl]
    · unfold r_X9_suits
      rw [e2, if_pos rfl]
  · have hI' : Inv U (r_X8_followTask (nI t) N σ).2 (r_X9_goTaskPlain (nI t) N τ).2 := ⟨q1, q2, B, W, n, K, L, F, H, tf, gv, p, l, rg, e3⟩
    have fz : zfr 468 501 τ (r_X9_goTaskPlain (nI t) N τ).2 := fun q hq1 => ⟨funext fun j => e7.2 q j (sPl_z hq1), by rw [e7.1]⟩
    unfold PR2 r_X8_suits u_X8_suits_1 r_X9_suits u_X9_suits_1
    rw [e1, if_neg n10]
    refine ⟨a1, ⟨a2, fun _ => e2⟩, ?_⟩
    rcases e8 with ⟨z1, z2, -⟩ | ⟨z1, z2, k, z3⟩
    · rw [z1, z2, if_pos rfl, if_pos rfl]
      exact ⟨rfl, hI', e6, fz⟩
    · obtain ⟨y1, y2, y3, y4, -, y6, y7⟩ := z3
      rw [z1, z2, if_neg n10, if_neg n10, y4.2.2.2.1, y6.2.2.1, mx_eq]
      by_cases c : mxJ K (aBegin K (tf t) (gv t)) 1 k ≤ 12
      · rw [if_pos c, if_pos c]
        exact ⟨rfl, hI', e6, fz⟩
      · rw [if_neg c, if_neg c]
        exact ⟨rfl, hI', e6, fz⟩
end IS
