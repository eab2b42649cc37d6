/-! an event of a task that is under way -/
theorem sG_P {t d q j : Nat} (h : sG t d q j) : (q = 468 ∧ ¬ j = 16) ∨ (¬ q = 468 ∧ ¬ q = 480 ∧ ¬ q = 481 ∧ ¬ q = 482 ∧ ¬ q = 483 ∧ ¬ q = 484) := by
  unfold sG sM at h
  omega
theorem sG_W {t d q j : Nat} (h : sG t d q j) : (q = 468 ∧ ¬ j = 16) ∨ (¬ q = 468 ∧ ¬ q = 470 ∧ ¬ q = 477) := by
  unfold sG sM at h
  omega
theorem sG_M {t d q j : Nat} (h : sG t d q j) (hd : 1 ≤ d) : ¬ q = 469 ∨ 236 ≤ j := by
  unfold sG sM at h
  omega
theorem sG_Y {t d q j : Nat} (h : sG t d q j) (hd : 1 ≤ d ∧ d ≤ 60) : sYm t q j := by
  unfold sG sM at h
  unfold sYm sN
  omega
theorem sC_P {r t q1 q j : Nat} (h : sC (r + 6 + 5 * t) q j) (ht : t < 4) (hq : q1 + 7 ≤ r ∨ r + 25 ≤ q1) : q < q1 ∨ q1 + 7 ≤ q := by
  unfold sC at h
  omega
theorem stp_ret {K : aK} {c : aC} (h : K.1 (aNext K c).1 = 13) : aStp K c = aLeave c (aNext K c) := if_pos h
theorem stp_call {K : aK} {c : aC} {f L F : Nat} {H : Nat → Nat} (h : K.1 (aNext K c).1 = 8) (hx : K.2.1 (aNext K c).1 = nI f) (hf : f < F) (hw : wfK K L F H) (h60 : c.1 < 60) : aStp K c = aEnter K c (aNext K c) f := by
  have := hw.2.1
  unfold aStp
  rw [if_neg (by rw [h]; decide), if_pos h60, hx, nI_clamp (by omega)]
theorem stp_fail {K : aK} {c : aC} (h : K.1 (aNext K c).1 = 8) (h60 : ¬ c.1 < 60) : aStp K c = (61, c.2) := by
  unfold aStp
  rw [if_neg (by rw [h]; decide), if_neg h60]
theorem EvR.pre {bT bM m sl al r t W n L e T M T2 M2 x y : Nat} {K : aK} {H : Nat → Nat} {dT dM : Int32} {σ τ σ2 τ2 σ1 τ1 : zS} {A A2 : Nat → Int32} {D RS TP ST RS2 TP2 : Nat → Nat} {res : Int32} {nc : aC} (h : EvR bT bM m sl al r t W n K L H dT dM e T2 M2 σ2 τ2 A2 D RS2 TP2 ST nc res σ1 τ1) (hT : T ≤ T2 ∧ T2 ≤ T + x) (hM : M ≤ M2 ∧ M2 ≤ M + y) (hc : ∀ q j, ¬ sXc r t q j → σ2.1 q j = σ.1 q j) (h2 : ∀ q j, ¬ (q = r + 6 + 5 * t ∧ j = 4) → σ2.2 q j = σ.2 q j) (hr : rfr (sYm t) τ τ2) (hA : ∀ i, (i = 0 ∨ (3 ≤ i ∧ i ≤ 10) ∨ ∃ v, v < 4 ∧ (i = 139 + 20 * v ∨ i = 140 + 20 * v ∨ (¬ v = t ∧ i = 147 + 20 * v))) → A2 i = A i) : EvR (bT + x) (bM + y) m sl al r t W n K L H dT dM e T M σ τ A D RS TP ST nc res σ1 τ1 := by
  obtain ⟨A1, D1, RS1, TP1, ST1, T1, M1, u, g1, g2, g3, g4, g5, g6, g7, g8, g9, g10, g11, g12, g13, g14, g15, g16, g17, g18⟩ := h
  exact ⟨A1, D1, RS1, TP1, ST1, T1, M1, u, g1, g2, g3, g4, g5, g6, g7, g8, by omega, by omega, fun q j hq => (g11 q j hq).trans (hc q j hq), fun q j hq => (g12 q j hq).trans (h2 q j hq), hr.tr g13, g14, g15, g16, fun i hi => (g17 i hi).trans (hA i hi), g18⟩
def gT (o q1 a : Nat) (x2 : Int32) (N : Nat) (σ : zS) : Int32 × zS := if ((r_X0_reach (a + 1) q1 N σ).1) = 13 then r_X4_leaveFrame o x2 (σ.1 a 3) N (r_X0_reach (a + 1) q1 N σ).2 else if 60 ≤ ((r_X0_reach (a + 1) q1 N σ).2.1 (a + 1) 0) then r_X4_fail o x2 (σ.1 a 3) N (r_X0_reach (a + 1) q1 N σ).2 else r_X4_enterFrame o q1 x2 (σ.1 a 3) N (r_X0_reach (a + 1) q1 N σ).2
def gP (o q1 a : Nat) (x2 : Int32) (N : Nat) (σ : zS) : Prop := p_X0_reach (a + 1) q1 N σ ∧ (((r_X0_reach (a + 1) q1 N σ).1) = 13 → p_X4_leaveFrame o x2 (σ.1 a 3) N (r_X0_reach (a + 1) q1 N σ).2) ∧ (¬ ((r_X0_reach (a + 1) q1 N σ).1) = 13 → (60 ≤ ((r_X0_reach (a + 1) q1 N σ).2.1 (a + 1) 0) → p_X4_fail o x2 (σ.1 a 3) N (r_X0_reach (a + 1) q1 N σ).2) ∧ (¬ 60 ≤ ((r_X0_reach (a + 1) q1 N σ).2.1 (a + 1) 0) → p_X4_enterFrame o q1 x2 (σ.1 a 3) N (r_X0_reach (a + 1) q1 N σ).2))
theorem gT_eq {o q1 a N : Nat} {x2 : Int32} {σ : zS} (ha : f_X4_taskAt o x2 σ = a) : r_X4_goOn o q1 x2 N σ = (if (σ.1 a 2) = 0 then gT o q1 a x2 N (s_X4_comeBack o x2 N σ) else gT o q1 a x2 N σ) ∧ (p_X4_taskAt o x2 σ → (σ.1 a 2 = 0 → p_X4_comeBack o x2 N σ ∧ gP o q1 a x2 N (s_X4_comeBack o x2 N σ)) → (¬ σ.1 a 2 = 0 → gP o q1 a x2 N σ) → p_X4_goOn o q1 x2 N σ) := by
  subst ha
  refine ⟨?_, fun h0 h1 h2 => ⟨h0, fun y => ?_, fun y => ?_⟩⟩
  · unfold r_X4_goOn gT u_X4_goOn_9 u_X4_goOn_8 u_X4_goOn_7 u_X4_goOn_6 u_X4_goOn_5 u_X4_goOn_4 u_X4_goOn_3 u_X4_goOn_2 u_X4_goOn_1
    by_cases c : σ.1 (f_X4_taskAt o x2 σ) 2 = 0
    · rw [if_pos c]
    · rw [if_neg c]
  · obtain ⟨q1', q2, q3⟩ := h2 y
    exact ⟨q1', fun z => ⟨(q3 z).1, (q3 z).2⟩, q2⟩
  · obtain ⟨q0, q1', q2, q3⟩ := h1 y
    exact ⟨q0, q1', fun z => ⟨(q3 z).1, (q3 z).2⟩, q2⟩
def gM (x1 : Int32) (N : Nat) (τ : zS) : zS := if ((r_X9_goOn x1 N τ).1) = 0 then s_X9_doReturn x1 N (r_X9_goOn x1 N τ).2 else s_X9_doCall x1 N (r_X9_goOn x1 N τ).2
def gMP (x1 : Int32) (N : Nat) (τ : zS) : Prop := p_X9_goOn x1 N τ ∧ (((r_X9_goOn x1 N τ).1) = 0 → p_X9_doReturn x1 N (r_X9_goOn x1 N τ).2) ∧ (¬ ((r_X9_goOn x1 N τ).1) = 0 → p_X9_doCall x1 N (r_X9_goOn x1 N τ).2)
theorem ev_go0 {m sl al r q1 t W n N B T M L F e : Nat} {σ τ : zS} {A : Nat → Int32} {D RS TP ST H tf : Nat → Nat} {gv : Nat → Nat → Int32} {K : aK} {dT dM : Int32} {c : aC} (hl : Rly r) (hq1 : q1 + 7 ≤ r ∨ r + 25 ≤ q1) (hN : 500 < N) (hs : CSt σ r W n) (hC : CRel sl al σ r A) (hO : COf al σ r A dT dM T M) (hT : T < 2 ^ 28) (h3 : ∀ t, t < 4 → 1 ≤ RS t → σ.1 (r + 5 + 5 * t) 3 = nI (TP t)) (hK : WK τ B W n) (hM : MRel τ A) (h : WF A W D RS TP ST) (hP : PK σ q1 τ B K L F H n tf gv) (ht : t < 4) (hR : 1 ≤ RS t) (hD : D t = c.1) (hty : tyC L H c) (hCm : Cm m σ r (r + 6 + 5 * t) K c e) (he : m = 1 → e < 3000) (hME : ME τ t c) (hst : σ.1 (r + 5 + 5 * t) 1 = 1) (hmo : ∃ mo, mo ≤ 60 ∧ c.1 ≤ mo ∧ A (140 + 20 * t) = nI mo) : gP r q1 (r + 5 + 5 * t) (nI t) N σ ∧ gMP (nI t) N τ ∧ EvR 2 24 m sl al r t W n K L H dT dM e T M σ τ A D RS TP ST (aStp K c) (gT r q1 (r + 5 + 5 * t) (nI t) N σ).1 (gT r q1 (r + 5 + 5 * t) (nI t) N σ).2 (gM (nI t) N τ) := by
  have hw6 := hP.1
  obtain ⟨-, -, -, h813⟩ := ty_top hw6 hty
  obtain ⟨wD0, -, wD, -, -, -, -, -, -, -⟩ := h.2.1 t ht
  rw [hD] at wD
  have d60 := hty.1
  obtain ⟨c1, c2, c3, c4⟩ := co_reach (N := N) (r := r) hw6 (show q1 + 7 ≤ r + 6 + 5 * t ∨ r + 6 + 5 * t + 4 ≤ q1 by omega) (by omega) hP.2.1 hty he hCm
  have hF : τ.1 469 (136 + 20 * t + 1) = nI c.1 := by rw [show 136 + 20 * t + 1 = 137 + 20 * t by omega, hM _ (by omega), wD]
  obtain ⟨m1, m2, m3, m4⟩ := ref_goOn_C (N := N) hw6 (show t ≤ 4 by omega) (by omega) hP.2.2.1 hF hME hty
  unfold gP gMP gT gM
  rw [show r + 5 + 5 * t + 1 = r + 6 + 5 * t by omega, h3 t ht hR, c2]
  -- behind the way to the CALL or RETURN all else is as it was
  have fA : ∀ q j, sC (r + 6 + 5 * t) q j → sXc r t q j := fun q j y => by
    unfold sC at y
    exact Or.inr (Or.inr (by omega))
  have fG : ∀ q j, sG t c.1 q j → sYm t q j := fun q j y => sG_Y y d60
  have S1 : CSt (r_X0_reach (r + 6 + 5 * t) q1 N σ).2 r W n := hs.fr c4 (fun q j y => by unfold sC at y; omega)
  have C1 : CRel sl al (r_X0_reach (r + 6 + 5 * t) q1 N σ).2 r A := hC.fr c4 (fun q j y i z => by
    unfold sC at y
    unfold Lk at z
    rcases z with z | z | z | ⟨u, z⟩ | ⟨u, z⟩ <;> omega)
  have O1 : COf al (r_X0_reach (r + 6 + 5 * t) q1 N σ).2 r A dT dM T M := hO.eq (c4.2 _ _ (fun z => by unfold sC at z; omega)) (c4.2 _ _ (fun z => by unfold sC at z; omega)) (fun j => c4.2 _ _ (fun z => by unfold sC at z; omega)) (fun _ _ => rfl)
  have T1 : ∀ v, v < 4 → 1 ≤ RS v → (r_X0_reach (r + 6 + 5 * t) q1 N σ).2.1 (r + 5 + 5 * v) 3 = nI (TP v) := fun v hv hv1 => (c4.2 _ _ (fun z => by unfold sC at z; omega)).trans (h3 v hv hv1)
  have K1 : WK (r_X9_goOn (nI t) N τ).2 B W n := hK.fr m2 (fun q j y => sG_W y)
  have M1 : MRel (r_X9_goOn (nI t) N τ).2 A := hM.fr m2 (fun q j y => sG_M y d60.1)
  have P1 : PK (r_X0_reach (r + 6 + 5 * t) q1 N σ).2 q1 (r_X9_goOn (nI t) N τ).2 B K L F H n tf gv := (hP.cl c4 (fun q j y => sC_P y ht hq1)).rf m2 (fun q j y => sG_P y)
  have st1 : (r_X0_reach (r + 6 + 5 * t) q1 N σ).2.1 (r + 5 + 5 * t) 1 = 1 := (c4.2 _ _ (fun z => by unfold sC at z; omega)).trans hst
  have pre : ∀ {nc res σ1 τ1}, EvR 2 24 m sl al r t W n K L H dT dM e T M (r_X0_reach (r + 6 + 5 * t) q1 N σ).2 (r_X9_goOn (nI t) N τ).2 A D RS TP ST nc res σ1 τ1 → EvR 2 24 m sl al r t W n K L H dT dM e T M σ τ A D RS TP ST nc res σ1 τ1 := fun g => g.pre (x := 0) (y := 0) ⟨Nat.le_refl _, Nat.le_refl _⟩ ⟨Nat.le_refl _, Nat.le_refl _⟩ (fun q j hq => c4.2 q j (fun z => hq (fA q j z))) (fun q j _ => by rw [c4.1]) (m2.wk fG) (fun _ _ => rfl)
  rcases h813 with h8 | h13
  · obtain ⟨f, f1, f2, f3, f4, f5, f6⟩ := m4 h8
    have n13 : ¬ K.1 (aNext K c).1 = 13 := by rw [h8]; decide
    rw [if_neg n13, if_neg (show ¬ (12 : Int32) = 13 by decide), f3, if_neg (show ¬ (1 : Int32) = 0 by decide)]
    have dep : (r_X0_reach (r + 6 + 5 * t) q1 N σ).2.1 (r + 6 + 5 * t) 0 = nI c.1 := by
      rcases c3 with y | y
      · exact y.2.1.1
      · exact y.2.1
    rw [dep]
    by_cases c60 : c.1 < 60
    · have n60 : ¬ (60 : Int32) ≤ nI c.1 := nI_ge (b := 60) c60 (by decide)
      obtain ⟨e1, e2, e3⟩ := ev_call (N := N) (m := m) (e := e) hl hq1 hN S1 C1 O1 hT T1 K1 M1 h P1 ht hR rfl hD hty h8 f1 f2 c60 c3 f4 f5 f6 st1
      rw [if_neg n60, stp_call h8 f2 f1 hP.1 c60]
      exact ⟨⟨c1, fun z => absurd z (by decide), fun _ => ⟨fun z => absurd z n60, fun _ => e1⟩⟩, ⟨m1, fun z => absurd z (by decide), fun _ => e2⟩, pre e3⟩
    · have y60 : (60 : Int32) ≤ nI c.1 := nI_le (a := 60) (by omega) (by omega)
      obtain ⟨mo, mo1, mo2, mo3⟩ := hmo
      obtain ⟨e1, e2, e3⟩ := ev_fail (m := m) (q1 := q1) (T := T) (M := M) (L := L) (F := F) (e := e) (H := H) (tf := tf) (gv := gv) (K := K) (c := c) hl hN S1 C1 O1 T1 K1 M1 h ht hR rfl (by omega) ⟨mo, mo1, mo3⟩
      rw [if_pos y60, stp_fail h8 c60]
      exact ⟨⟨c1, fun z => absurd z (by decide), fun _ => ⟨fun _ => e1, fun z => absurd y60 z⟩⟩, ⟨m1, fun z => absurd z (by decide), fun _ => e2⟩, pre e3⟩
  · obtain ⟨f1, f2, f3⟩ := m3 h13
    rw [if_pos h13, if_pos rfl, f1, if_pos rfl]
    obtain ⟨e1, e2, e3⟩ := ev_ret (N := N) (m := m) (e := e) hl hq1 hN S1 C1 O1 hT T1 K1 M1 h P1 ht hR rfl hD hty h13 c3 f2 f3 st1 hmo
    rw [stp_ret h13]
    exact ⟨⟨c1, fun _ => e1, fun z => absurd rfl z⟩, ⟨m1, fun _ => e2, fun z => absurd rfl z⟩, pre e3⟩
/-- .. whether its latest FRAME is there or not -/
theorem ev_go {m sl al r q1 t W n N B T M L F e : Nat} {σ τ : zS} {A : Nat → Int32} {D RS TP ST H tf : Nat → Nat} {gv : Nat → Nat → Int32} {K : aK} {dT dM : Int32} {c : aC} (hl : Rly r) (hq1 : q1 + 7 ≤ r ∨ r + 25 ≤ q1) (hN : 500 < N) (hs : CSt σ r W n) (hC : CRel sl al σ r A) (hO : COf al σ r A dT dM T M) (hT : T < 2 ^ 27) (h3 : ∀ t, t < 4 → 1 ≤ RS t → σ.1 (r + 5 + 5 * t) 3 = nI (TP t)) (hK : WK τ B W n) (hM : MRel τ A) (h : WF A W D RS TP ST) (hu : WFu A W RS TP) (hU : σ.1 r 12 = A 10) (hP : PK σ q1 τ B K L F H n tf gv) (ht : t < 4) (hD : D t = c.1) (hty : tyC L H c) (hCm : Cm m σ r (r + 6 + 5 * t) K c e) (he : m = 1 → e < 3000) (hME : ME τ t c) (hst : σ.1 (r + 5 + 5 * t) 1 = 1) (hmo : ∃ mo, mo ≤ 60 ∧ c.1 ≤ mo ∧ A (140 + 20 * t) = nI mo) : p_X4_goOn r q1 (nI t) N σ ∧ (A (138 + 20 * t) = 0 → p_X9_comeBack (nI t) N τ ∧ gMP (nI t) N (s_X9_comeBack (nI t) N τ)) ∧ (¬ A (138 + 20 * t) = 0 → gMP (nI t) N τ) ∧ EvR 4 37 m sl al r t W n K L H dT dM e T M σ τ A D RS TP ST (aStp K c) (r_X4_goOn r q1 (nI t) N σ).1 (r_X4_goOn r q1 (nI t) N σ).2 (if A (138 + 20 * t) = 0 then gM (nI t) N (s_X9_comeBack (nI t) N τ) else gM (nI t) N τ) := by
  obtain ⟨g1, g2⟩ := gT_eq (q1 := q1) (N := N) (tk_eq hs.2.2 ht)
  obtain ⟨-, -, -, -, wR, -, wRW, -, -, -⟩ := h.2.1 t ht
  have sR : σ.1 (r + 5 + 5 * t) 2 = A (138 + 20 * t) := hC _ _ _ (lk_r ht)
  rw [sR] at g1 g2
  rw [g1]
  have d60 := hty.1
  have hW := h.1
  by_cases cR : RS t = 0
  · have z : A (138 + 20 * t) = 0 := by rw [wR, cR]; rfl
    rw [if_pos z, if_pos z]
    obtain ⟨b1, b2, A', RS', T', M', w, b3, b4, b5, b6, b7, b8, b9, b10, b11, b12, b13, b14⟩ := pr_back (d := c.1) hl hN hs hC hO (by omega) h3 hK hM h hu hU ht cR hD d60.1
    have rq : ∀ q j, sX r q j → (r ≤ q ∧ q < r + 25) ∧ (q < r + 6 + 5 * t ∨ r + 6 + 5 * t + 4 ≤ q) ∧ ¬ (q = r + 5 + 5 * t ∧ j = 1) := fun q j y => by
      unfold sX sRm at y
      rcases y with (y | y | y | y | ⟨u, y⟩) | ⟨u, y⟩ <;> omega
    have P1 : PK (s_X4_comeBack r (nI t) N σ) q1 (s_X9_comeBack (nI t) N τ) B K L F H n tf gv := (hP.cl b6 (fun q j y => by have := rq q j y; omega)).rf b9 (fun q j y => by unfold sN at y; omega)
    have hb := ty_top hP.1 hty
    have hh : c.2.2.2.2 ≤ 2440 := by
      have h1 := hty.2.2.2
      have h2 := hb.1
      have h3 := (hP.1.2.2.2 _ hb.2.1.1).1
      have h3 : H (c.2.1 c.1) ≤ 28 := h3
      omega
    obtain ⟨mo, mo1, mo2, mo3⟩ := hmo
    obtain ⟨e1, e2, e3⟩ := ev_go0 (N := N) (m := m) (e := e) hl hq1 hN b4 b3 b5 (by omega) b7 (hK.fr b9 (fun q j y => sN_W y)) b8 b10 P1 ht (by omega) hD hty (hCm.fr b6 (fun q j y => ⟨(rq q j y).1, (rq q j y).2.1⟩)) he (hME.fr d60.2 hh b9 (fun j y => by unfold sN at y; omega)) ((b6.2 _ _ (fun y => (rq _ _ y).2.2 ⟨rfl, rfl⟩)).trans hst) ⟨mo, mo1, mo2, (b14 _ (Or.inr (Or.inr ⟨t, ht, by omega⟩))).trans mo3⟩
    refine ⟨g2 (tk_p hl hs.2.2 ht) (fun _ => ⟨b1, e1⟩) (fun y => absurd z y), fun _ => ⟨b2, e2⟩, fun y => absurd z y, ?_⟩
    refine e3.pre b12 b13 (fun q j hq => b6.2 q j (fun y => hq (Or.inl y))) (fun q j _ => by rw [b6.1]) (b9.wk (fun q j y => Or.inl y)) (fun i hi => b14 i ?_)
    rcases hi with y | y | ⟨u, y⟩
    · exact Or.inl y
    · exact Or.inr (Or.inl y)
    · exact Or.inr (Or.inr ⟨u, y.1, by omega⟩)
  · have z : ¬ A (138 + 20 * t) = 0 := by
      rw [wR]
      exact nI_ne0 (by omega) (by omega)
    rw [if_neg z, if_neg z]
    obtain ⟨e1, e2, e3⟩ := ev_go0 (N := N) (m := m) (e := e) hl hq1 hN hs hC hO (by omega) h3 hK hM h hP ht (by omega) hD hty hCm he hME hst hmo
    refine ⟨g2 (tk_p hl hs.2.2 ht) (fun y => absurd y z) (fun _ => e1), fun y => absurd y z, fun _ => e2, ?_⟩
    exact e3.pre (x := 2) (y := 13) ⟨Nat.le_refl _, by omega⟩ ⟨Nat.le_refl _, by omega⟩ (fun _ _ _ => rfl) (fun _ _ _ => rfl) rfr.rf (fun _ _ => rfl)
