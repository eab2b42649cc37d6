/-! a CALL; one of a FRAME too many -/
theorem mx_eq {a b : Int32} : f_X9_more a b = mxI a b := by
  unfold f_X9_more mxI
  by_cases c : a < b
  · rw [if_pos (Int32.le_of_lt c), if_pos c]
  · rw [if_neg c]
    by_cases c1 : a ≤ b
    · rw [if_pos c1]
      exact Int32.le_antisymm (Int32.not_lt.mp c) c1
    · rw [if_neg c1]
theorem ev_call {m sl al r q1 t p W n N B T M L F e f : Nat} {σ τ : zS} {A : Nat → Int32} {D RS TP ST H tf : Nat → Nat} {gv : Nat → Nat → Int32} {K : aK} {dT dM : Int32} {c : aC} (hl : Rly r) (hq1 : q1 + 7 ≤ r ∨ r + 25 ≤ q1) (hN : 500 < N) (hs : CSt σ r W n) (hC : CRel sl al σ r A) (hO : COf al σ r A dT dM T M) (hT : T < 2 ^ 28) (h3 : ∀ t, t < 4 → 1 ≤ RS t → σ.1 (r + 5 + 5 * t) 3 = nI (TP t)) (hK : WK τ B W n) (hM : MRel τ A) (h : WF A W D RS TP ST) (hP : PK σ q1 τ B K L F H n tf gv) (ht : t < 4) (hR : 1 ≤ RS t) (hp : TP t = p) (hD : D t = c.1) (hty : tyC L H c) (h8 : K.1 (aNext K c).1 = 8) (hf : f < F) (hx : K.2.1 (aNext K c).1 = nI f) (h60 : c.1 < 60) (hCd : Cd m σ r (r + 6 + 5 * t) K c e) (hME : ME τ t (aMid c ((aNext K c).1 + 1, (aNext K c).2.1, (aNext K c).2.2 - K.2.2.2 f))) (h41 : τ.1 468 41 = nI f) (h492 : ∀ i, i < K.2.2.2 f → τ.1 492 i = (aNext K c).2.1 ((aNext K c).2.2 - K.2.2.2 f + i)) (hst : σ.1 (r + 5 + 5 * t) 1 = 1) : p_X4_enterFrame r q1 (nI t) (nI p) N σ ∧ p_X9_doCall (nI t) N τ ∧ EvR 2 24 m sl al r t W n K L H dT dM e T M σ τ A D RS TP ST (aEnter K c (aNext K c) f) (r_X4_enterFrame r q1 (nI t) (nI p) N σ).1 (r_X4_enterFrame r q1 (nI t) (nI p) N σ).2 (s_X9_doCall (nI t) N τ) := by
  have hW := h.1
  obtain ⟨-, -, wD, -, -, -, -, wS, wT, -⟩ := h.2.1 t ht
  obtain ⟨wT, hpW⟩ := wT hR
  rw [hp] at wT hpW
  rw [hD] at wD wS
  have hST : ST t = 1 := wS.mpr hty.1.1
  have hw : nxw W p < W := nxw_lt hW.1
  have eB := cl_behind hs hW hpW
  obtain ⟨b1, b2, -⟩ := rf_behind hK hW hpW
  have hE : A (12 + nxw W p) = -1 ∨ ∃ u, u < 4 ∧ 1 ≤ RS u ∧ A (12 + nxw W p) = nI u ∧ nxw W p = wat W (TP u) (RS u - 1) ∧ (u = t → (1 : Nat) = 1 ∧ 2 ≤ RS t) := by
    rcases h.2.2.1.1 _ hw with y | ⟨u, f', y1, y2, y3, y4⟩
    · exact Or.inl y
    · obtain ⟨z1, z2, z3⟩ := wf_eld h hpW y1 y3 (Or.inr ⟨t, ht, hR, hp⟩)
      exact Or.inr ⟨u, y1, z1, y3, z2, fun z => ⟨rfl, by rw [← z]; exact z3 (by rw [z]; exact hp)⟩⟩
  obtain ⟨p1, p2, A1, RS1, T1, M1, g1, g2, g3, g4, g5, g6, g7, g8, g9, g10, g11, g12, g13⟩ := pr_room (cl := 1) hl hN hs hC hO (by omega) h3 hK hM h ht hw (by omega) hE
  have p2 : p_X9_makeRoom (nI t) (nI (nxw W p)) 1 N τ := p2
  have g5 : MRel (s_X9_makeRoom (nI t) (nI (nxw W p)) 1 N τ) A1 := g5
  have g6 : rfr sN τ (s_X9_makeRoom (nI t) (nI (nxw W p)) 1 N τ) := g6
  have hR1 : 1 ≤ RS1 t := g13 hR
  obtain ⟨er1, er2, -⟩ := rf_frm hM ht
  have i12 : (f_X9_atTask (nI t) 12).toNatClampNeg = 148 + 20 * t := by rw [at_12, nI_clamp (by omega)]; omega
  have eTop : τ.1 469 (148 + 20 * t) = nI p := by rw [hM _ (by omega), wT]
  have n60 : ¬ f_X9_frames (nI t) τ = 60 := by
    rw [er1, wD]
    exact fun z => absurd ((nI_eq (b := 60) (by omega) (by decide)).mp z) (by omega)
  unfold p_X4_enterFrame r_X4_enterFrame u_X4_enterFrame_4 u_X4_enterFrame_3 u_X4_enterFrame_2 u_X4_enterFrame_1
  unfold s_X9_doCall p_X9_doCall u_X9_doCall_6 u_X9_doCall_5 u_X9_doCall_4 u_X9_doCall_3 u_X9_doCall_2 u_X9_doCall_1
  rw [if_neg n60, i12, eTop, b1, eB]
  generalize s_X4_makeRoom r (nI t) (nI (nxw W p)) N σ = σ0 at g1 g2 g3 g4
  generalize s_X9_makeRoom (nI t) (nI (nxw W p)) 1 N τ = τ0 at g5 g6
  have tk := tk_eq g2.2.2 ht
  rw [tk, show r + 5 + 5 * t + 1 = r + 6 + 5 * t by omega]
  have rq : ∀ q j, sRm r q j → r ≤ q ∧ q < r + 25 := fun q j y => by
    unfold sRm at y
    rcases y with y | y | y | y | ⟨u, y⟩ <;> omega
  have rq2 : ∀ q j, sRm r q j → q < r + 6 + 5 * t ∨ r + 6 + 5 * t + 4 ≤ q := fun q j y => by
    unfold sRm at y
    rcases y with y | y | y | y | ⟨u, y⟩ <;> omega
  have P0 : PK σ0 q1 τ0 B K L F H n tf gv := (hP.cl g4 (fun q j y => by have := rq q j y; omega)).rf g6 (fun q j y => by unfold sN at y; omega)
  have hw6 := P0.1
  have Cd0 : Cd m σ0 r (r + 6 + 5 * t) K c e := hCd.fr g4 (fun q j y => ⟨rq q j y, rq2 q j y⟩)
  obtain ⟨c1, c2, c3⟩ := co_enter (N := N) hw6 ⟨by omega, by omega⟩ (show q1 + 7 ≤ r + 6 + 5 * t ∨ r + 6 + 5 * t + 4 ≤ q1 by omega) (by omega) P0.2.1 hty h8 hf hx h60 Cd0
  generalize s_X0_enter (r + 6 + 5 * t) q1 N σ0 = σ1 at c2 c3
  obtain ⟨-, -, vD, -, vR, -, -, -, vT, -⟩ := g7.2.1 t ht
  rw [hD] at vD
  -- the class
  have dep : σ1.1 (r + 6 + 5 * t) 0 = nI (c.1 + 1) := c2.dep
  have C1 : CRel sl al σ1 r (upd A1 (137 + 20 * t) (nI (c.1 + 1))) := by
    intro b j i hk
    by_cases y : b = r + 6 + 5 * t ∧ j = 0
    · have ei : i = 137 + 20 * t := (hk.inj (lk_d (sl := sl) (al := al) (r := r) ht)).mp y
      rw [y.1, y.2, ei, pk_us]
      exact dep
    · have ei : ¬ i = 137 + 20 * t := fun z => y ((hk.inj (lk_d (sl := sl) (al := al) (r := r) ht)).mpr z)
      rw [pk_un ei, c3.2 b j (fun z => by
        unfold sA5 at z
        unfold Lk at hk
        rcases hk with hk | hk | hk | ⟨u, hk⟩ | ⟨u, hk⟩ <;> omega)]
      exact g1 b j i hk
  have S1 : CSt σ1 r W n := g2.fr c3 (fun q j y => by unfold sA5 at y; omega)
  have lno : ∀ i, ¬ Lk sl al r (r + 5 + 5 * t) 3 i := fun i y => by
    unfold Lk at y
    rcases y with y | y | y | ⟨u, y⟩ | ⟨u, y⟩ <;> omega
  have C2 : CRel sl al (zuI σ1 (r + 5 + 5 * t) 3 (nI (nxw W p))) r (upd (upd A1 (137 + 20 * t) (nI (c.1 + 1))) (148 + 20 * t) (nI (nxw W p))) := (C1.sk lno).any (lk_no (by
    right; right; right; right; right
    exact ⟨t, ht, by omega⟩))
  have S2 : CSt (zuI σ1 (r + 5 + 5 * t) 3 (nI (nxw W p))) r W n := S1.uI (by omega)
  have ed : (zuI σ1 (r + 5 + 5 * t) 3 (nI (nxw W p))).1 (r + 6 + 5 * t) 0 = nI (c.1 + 1) := by rw [gI_n (by omega)]; exact dep
  rw [ed]
  obtain ⟨o1, o2, o3, o4⟩ := cl_in (f := nI (c.1 + 1)) (w := nxw W p) hl S2 C2 ht (by omega)
  generalize s_X4_moveIn r (nI t) (nI (c.1 + 1)) (nI (nxw W p)) (zuI σ1 (r + 5 + 5 * t) 3 (nI (nxw W p))) = σ4 at o2 o3 o4
  -- the reference
  have h41' : τ0.1 468 41 = nI f := (g6.2 _ _ (fun z => by unfold sN at z; omega)).trans h41
  rw [h41']
  have hF1 : τ0.1 469 (136 + 20 * t + 1) = nI c.1 := by rw [show 136 + 20 * t + 1 = 137 + 20 * t by omega, g5 _ (by omega), vD]
  obtain ⟨tb, -, tq, -⟩ := ty_top hw6 hty
  have hHn := (hw6.2.2.2 _ tq.1).1
  have hh : (aNext K c).2.2 ≤ 1680 := by rw [tq.2]; omega
  have ME0 : ME τ0 t (aMid c ((aNext K c).1 + 1, (aNext K c).2.1, (aNext K c).2.2 - K.2.2.2 f)) := hME.fr (show c.1 ≤ 60 by omega) (show (aNext K c).2.2 - K.2.2.2 f ≤ 2440 by omega) g6 (fun j y => by unfold sN at y; omega)
  obtain ⟨z1, z2, z3, z4⟩ := ref_enter_C (N := N) (s := aNext K c) hw6 (show t ≤ 4 by omega) hty.1.1 h60 (by omega) P0.2.2.1 hf hF1 ME0 (by omega) (fun i hi => (g6.2 _ _ (fun z => by unfold sN at z; omega)).trans (h492 i hi))
  generalize s_X9_enter (nI t) (nI f) N τ0 = τ2 at z2 z3 z4
  have M2 : MRel τ2 (upd A1 (137 + 20 * t) (nI (c.1 + 1))) := by
    intro i hi
    by_cases y : i = 137 + 20 * t
    · rw [y, pk_us, show 137 + 20 * t = 136 + 20 * t + 1 by omega]
      exact z2
    · rw [pk_un y, z4.2 _ _ (fun z => by unfold sE at z; omega)]
      exact g5 i hi
  obtain ⟨-, -, s3, s4, -, -⟩ := rf_frm M2 ht
  rw [pk_un (by omega), vR] at s3
  obtain ⟨x1, x2, x3⟩ := rf_come M2 ht (show nxw W p < 12 by omega)
  rw [pk_us] at x2
  generalize s_X9_come (nI t) (nI (nxw W p)) τ2 = τ3 at x2 x3
  have i2 : (f_X9_atTask (nI t) 2).toNatClampNeg = 138 + 20 * t := by rw [at_2, nI_clamp (by omega)]; omega
  have i4 : (f_X9_atTask (nI t) 4).toNatClampNeg = 140 + 20 * t := by rw [at_4, nI_clamp (by omega)]; omega
  rw [s3, i2, i4, nI_1]
  generalize hA4 : aIn (upd (upd A1 (137 + 20 * t) (nI (c.1 + 1))) (148 + 20 * t) (nI (nxw W p))) t (nI (c.1 + 1)) (nxw W p) = A4 at o2
  have nA : ∀ i, ¬ i = 12 + nxw W p → ¬ i = 24 + nxw W p → ¬ i = 137 + 20 * t → ¬ i = 138 + 20 * t → ¬ i = 148 + 20 * t → A4 i = A1 i := fun i n1 n2 n4 n5 n6 => by
    rw [← hA4]
    unfold aIn
    rw [pk_un n5, pk_un n2, pk_un n1, pk_un n6, pk_un n4]
  have a137 : A4 (137 + 20 * t) = nI (c.1 + 1) := by
    rw [← hA4]
    unfold aIn
    rw [pk_un (by omega), pk_un (by omega), pk_un (by omega), pk_un (by omega), pk_us]
  have a138 : A4 (138 + 20 * t) = nI (RS1 t + 1) := by
    rw [← hA4]
    unfold aIn
    rw [pk_us, pk_un (by omega), pk_un (by omega), vR, nI_1]
  have e4 : upd (upd (upd (upd (upd (upd A1 (137 + 20 * t) (nI (c.1 + 1))) (148 + 20 * t) (nI (nxw W p))) (138 + 20 * t) 1) (12 + nxw W p) (nI t)) (24 + nxw W p) (nI (c.1 + 1))) (138 + 20 * t) (nI (RS1 t + 1)) = A4 := by
    rw [← hA4]
    unfold aIn
    rw [pk_un (by omega), pk_un (by omega), vR, nI_1, upd_c (i := 138 + 20 * t) (j := 12 + nxw W p) (by omega), upd_c (i := 138 + 20 * t) (j := 24 + nxw W p) (by omega), upd_two]
  have M4 : MRel (zuI τ3 469 (138 + 20 * t) (nI (RS1 t + 1))) A4 := by
    rw [← e4]
    exact x2.up
  generalize hτ4 : zuI τ3 469 (138 + 20 * t) (nI (RS1 t + 1)) = τ4 at M4
  have F4 : rfr sN τ2 τ4 := by
    rw [← hτ4]
    exact x3.uI (show sN _ _ from ⟨rfl, by omega⟩)
  obtain ⟨t3, t4, -⟩ := rf_frm M4 ht
  have e140 : τ4.1 469 (140 + 20 * t) = A4 (140 + 20 * t) := M4 _ (by omega)
  rw [t3, e140, mx_eq]
  obtain ⟨WC, hRW1⟩ := wf_call (A1 := A4) g7 ht hR1 (by rw [hD]; omega) (by rw [hp]; exact g8) (fun i _ n1 n2 n3 n4 n5 => nA i (by rw [hp] at n4; exact n4) (by rw [hp] at n5; exact n5) n1 n2 n3) (by rw [hD]; exact a137) a138 (by
    rw [← hA4, hp]
    unfold aIn
    rw [pk_un (by omega), pk_un (by omega), pk_un (by omega), pk_us]) (by
    rw [← hA4, hp]
    unfold aIn
    rw [pk_un (by omega), pk_un (by omega), pk_us]) (by
    rw [← hA4, hp, hD]
    unfold aIn
    rw [pk_un (by omega), pk_us])
  have hcls : ∀ q j, ¬ sXc r t q j → σ4.1 q j = σ.1 q j := fun q j hq => by
    have q1' : ¬ sX r q j ∧ ¬ (q = r + 5 + 5 * t ∧ j = 1) ∧ ¬ (r + 6 + 5 * t ≤ q ∧ q < r + 10 + 5 * t) := ⟨fun y => hq (Or.inl y), fun y => hq (Or.inr (Or.inl y)), fun y => hq (Or.inr (Or.inr y))⟩
    have q2' : ¬ sRm r q j := fun y => q1'.1 (Or.inl y)
    have q3' : ¬ (q = r + 5 + 5 * t ∧ j = 3) := fun y => q1'.1 (Or.inr ⟨t, ht, y.1, by omega⟩)
    have q4' : ¬ sW r t q j := fun y => q2' (by
      unfold sW at y
      rcases y with y | y
      · unfold sRm
        omega
      · exact Or.inr (Or.inr (Or.inr (Or.inr ⟨t, ht, y.1, by omega⟩))))
    rw [o4.2 q j q4', gI_n q3', c3.2 q j (fun y => by unfold sA5 at y; omega), g4.2 q j q2']
  refine ⟨⟨p1, tk_p hl g2.2.2 ht, c1, o1⟩, ⟨er2, fun _ => ⟨?_, b2, p2, z1, s4, x1, ?_, ?_, t4⟩, fun y => absurd y n60⟩, A4, fu D t (D t + 1), fu RS1 t (RS1 t + 1), fu TP t (nxw W (TP t)), fu ST t 1, T1, M1, nxw W p, ⟨rfl, hw⟩, o2, o3, ?_, fun v hv hv1 => ?_, ?_, WC, Or.inr ⟨by rw [fu_s]; omega, by rw [fu_s, hp]⟩, by omega, by omega, hcls, fun q j _ => ?_, ?_, ?_, fun v hv => ⟨fu_n hv, fu_n hv⟩, Or.inl ⟨fu_s, ?_, (ty_enter hw6 hty h8 hf hx h60).1, ?_, ?_⟩, fun i hi => ?_, by rw [fu_s]; omega⟩
  · rw [at_12]
    exact vp_in_nI (by omega) (by decide)
  · rw [at_2]
    exact vp_in_nI (by omega) (by decide)
  · rw [at_4]
    exact vp_in_nI (by omega) (by decide)
  · refine g3.eq ?_ ?_ (fun j => ?_) (fun i hi => nA i (by omega) (by omega) (by omega) (by omega) (by omega))
    · rw [o4.2 _ _ (fun z => by unfold sW at z; omega), gI_n (by omega), c3.2 _ _ (fun z => by unfold sA5 at z; omega)]
    · rw [o4.2 _ _ (fun z => by unfold sW at z; omega), gI_n (by omega), c3.2 _ _ (fun z => by unfold sA5 at z; omega)]
    · rw [o4.2 _ _ (fun z => by unfold sW at z; omega), gI_n (by omega), c3.2 _ _ (fun z => by unfold sA5 at z; omega)]
  · show σ4.1 (r + 5 + 5 * v) 3 = _
    rw [o4.2 _ _ (fun z => by unfold sW at z; omega)]
    by_cases cc : v = t
    · subst cc
      rw [gI_h rfl rfl, fu_s, hp]
    · rw [fu_n cc] at hv1
      have := g12 v
      rw [gI_n (by omega), fu_n cc, c3.2 _ _ (fun z => by unfold sA5 at z; omega), g4.2 _ _ (fun z => by
        unfold sRm at z
        rcases z with z | z | z | z | ⟨u, z⟩ <;> omega)]
      exact h3 v hv (by omega)
  · exact M4.up.up
  · show σ4.2 q j = σ.2 q j
    rw [o4.1]
    show σ1.2 q j = σ.2 q j
    rw [c3.1, g4.1]
  · have fe : ∀ q j, sE t c.1 q j → sYm t q j := fun q j y => by
      unfold sE at y
      rcases y with ⟨y1, y2 | y2⟩
      · exact Or.inl ⟨y1, by omega⟩
      · exact Or.inr (Or.inr (Or.inr ⟨y1, by omega, by omega⟩))
    have fs : ∀ q j, sN q j → sYm t q j := fun q j y => Or.inl y
    have ff : rfr (sYm t) τ τ4 := ((g6.wk fs).tr (z4.wk fe)).tr (F4.wk fs)
    exact (ff.uI (Or.inl ⟨rfl, by omega⟩)).uI (Or.inl ⟨rfl, by omega⟩)
  · show σ4.1 (r + 5 + 5 * t) 1 = _
    rw [o4.2 _ _ (fun z => by unfold sW at z; omega), gI_n (by omega), c3.2 _ _ (fun z => by unfold sA5 at z; omega), g4.2 _ _ (fun z => by
        unfold sRm at z
        rcases z with z | z | z | z | ⟨u, z⟩ <;> omega), fu_s]
    exact hst
  · rw [fu_s, hD]
    rfl
  · have fz : rfr sN τ2 (zuI (zuI τ4 469 (140 + 20 * t) (mxI (A4 (140 + 20 * t)) (A4 (137 + 20 * t)))) 469 10 (nI (nxw W p))) := (F4.uI (show sN _ _ from ⟨rfl, by omega⟩)).uI (show sN _ _ from ⟨rfl, by omega⟩)
    exact z3.fr (show c.1 + 1 ≤ 60 by omega) (show (aNext K c).2.2 - K.2.2.2 f ≤ 2440 by omega) fz (fun j y => by unfold sN at y; omega)
  · have f5 : rfr (fun q j => sW r t q j ∨ (q = r + 5 + 5 * t ∧ (j = 1 ∨ j = 3))) σ1 σ4 := (rfr.rf.uI (x := nI (nxw W p)) (show (fun q j => sW r t q j ∨ (q = r + 5 + 5 * t ∧ (j = 1 ∨ j = 3))) (r + 5 + 5 * t) 3 from Or.inr ⟨rfl, Or.inr rfl⟩)).tr (o4.wk (fun q j y => Or.inl y))
    exact c2.fr f5 (fun q j y => by unfold sW at y; omega)
  · have hi2 : rmp i ∧ ¬ i = 137 + 20 * t ∧ ¬ i = 138 + 20 * t ∧ ¬ i = 148 + 20 * t ∧ ¬ (12 ≤ i ∧ i < 36) := by
      rcases hi with y | y | ⟨u, y⟩
      · exact ⟨Or.inl y, by omega, by omega, by omega, by omega⟩
      · exact ⟨Or.inr (Or.inl y), by omega, by omega, by omega, by omega⟩
      · exact ⟨Or.inr (Or.inr ⟨u, y.1, by omega⟩), by omega, by omega, by omega, by omega⟩
    rw [nA i (by omega) (by omega) hi2.2.1 hi2.2.2.1 hi2.2.2.2.1, g11 i hi2.1]
theorem ev_fail {m sl al r q1 t p W n N B T M L F e : Nat} {σ τ : zS} {A : Nat → Int32} {D RS TP ST H tf : Nat → Nat} {gv : Nat → Nat → Int32} {K : aK} {dT dM : Int32} {c : aC} (hl : Rly r) (hN : 500 < N) (hs : CSt σ r W n) (hC : CRel sl al σ r A) (hO : COf al σ r A dT dM T M) (h3 : ∀ t, t < 4 → 1 ≤ RS t → σ.1 (r + 5 + 5 * t) 3 = nI (TP t)) (hK : WK τ B W n) (hM : MRel τ A) (h : WF A W D RS TP ST) (ht : t < 4) (hR : 1 ≤ RS t) (hp : TP t = p) (hD : D t = 60) (hmo : ∃ mo, mo ≤ 60 ∧ A (140 + 20 * t) = nI mo) : p_X4_fail r (nI t) (nI p) N σ ∧ p_X9_doCall (nI t) N τ ∧ EvR 2 24 m sl al r t W n K L H dT dM e T M σ τ A D RS TP ST (61, c.2) (r_X4_fail r (nI t) (nI p) N σ).1 (r_X4_fail r (nI t) (nI p) N σ).2 (s_X9_doCall (nI t) N τ) := by
  have hW := h.1
  obtain ⟨-, -, wD, -, -, -, -, wS, wT, -⟩ := h.2.1 t ht
  obtain ⟨wT, hpW⟩ := wT hR
  rw [hp] at wT hpW
  rw [hD] at wD
  obtain ⟨er1, er2, -⟩ := rf_frm hM ht
  have e60 : f_X9_frames (nI t) τ = 60 := by
    rw [er1, wD]
    rfl
  obtain ⟨r1, r2, r3, A', r4, r5, r6, r7, r7b, r8, r9, r10, r11, r12, r13, r14⟩ := pr_fail hl hN hs hC hK hM h ht hR hp
  have es : s_X9_doCall (nI t) N τ = s_X9_doFail (nI t) N τ := by
    unfold s_X9_doCall
    rw [if_pos e60]
    rfl
  obtain ⟨mo, mo60, emo⟩ := hmo
  have a140 : A' (140 + 20 * t) = nI mo := (r14 _ (Or.inr (Or.inr ⟨t, ht, by omega⟩))).trans emo
  have a137 : A' (137 + 20 * t) = nI 0 := by
    have := (r12.2.1 t ht).2.2.1
    rw [fu_s] at this
    exact this
  have emx : mxI (A' (140 + 20 * t)) (A' (137 + 20 * t)) = A' (140 + 20 * t) := by
    unfold mxI
    rw [a140, a137, if_neg (nI_nlt (by omega) (by omega))]
  rw [es]
  refine ⟨r1, ⟨er2, fun y => absurd e60 y, fun _ => r2⟩, A', fu D t 0, fu RS t 0, fu TP t 0, fu ST t 3, T, M, p, ⟨r3, hpW⟩, r4, r5, ?_, fun v hv hv1 => ?_, ?_, r12, Or.inl r13, by omega, by omega, fun q j hq => ?_, r8, r11.wk (fun q j y => Or.inl y), ?_, fun v hv => ⟨fu_n hv, fu_n hv⟩, Or.inr ⟨by rw [fu_s]; omega, fun y => absurd (fu_s.symm.trans y) (by decide), fun _ => r9, fun _ => ⟨0, by omega, r7b⟩, Or.inr ⟨rfl, fu_s⟩⟩, fun i hi => ?_, by rw [fu_s]; omega⟩
  · refine hO.eq (r6 _ _ (fun y => by unfold sF sW at y; omega)) (r6 _ _ (fun y => by unfold sF sW at y; omega)) (fun j => r6 _ _ (fun y => by unfold sF sW at y; omega)) (fun i hi => r14 i (by omega))
  · by_cases cc : v = t
    · subst cc
      rw [fu_s] at hv1
      omega
    · rw [fu_n cc] at hv1
      rw [fu_n cc, r6 _ _ (fun y => by unfold sF sW at y; omega)]
      exact h3 v hv hv1
  · rw [emx, upd_same rfl]
    exact r10
  · refine r6 q j (fun y => hq ?_)
    unfold sF sW at y
    rcases y with (y | y) | y | y
    · exact Or.inl (Or.inl (by unfold sRm; omega))
    · exact Or.inl (Or.inl (Or.inr (Or.inr (Or.inr (Or.inr ⟨t, ht, y.1, by omega⟩)))))
    · exact Or.inr (Or.inr (by omega))
    · exact Or.inr (Or.inl y)
  · rw [r7, fu_s]
    rfl
  · apply r14
    rcases hi with y | y | ⟨u, y⟩
    · exact Or.inl (by omega)
    · exact Or.inl (by omega)
    · right; right
      refine ⟨u, y.1, ?_⟩
      omega
