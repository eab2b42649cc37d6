/-! a RETURN -/
theorem lk_10 {sl al r : Nat} : ∀ a k, ¬ Lk sl al r a k 10 := by
  intro a k z
  unfold Lk at z
  rcases z with z | z | z | ⟨u, z⟩ | ⟨u, z⟩ <;> omega
theorem ev_ret {m sl al r q1 t p W n N B T M L F e : Nat} {σ τ : zS} {A : Nat → Int32} {D RS TP ST H tf : Nat → Nat} {gv : Nat → Nat → Int32} {K : aK} {dT dM : Int32} {c : aC} (hl : Rly r) (hq1 : q1 + 7 ≤ r ∨ r + 25 ≤ q1) (hN : 500 < N) (hs : CSt σ r W n) (hC : CRel sl al σ r A) (hO : COf al σ r A dT dM T M) (hT : T < 2 ^ 28) (h3 : ∀ t, t < 4 → 1 ≤ RS t → σ.1 (r + 5 + 5 * t) 3 = nI (TP t)) (hK : WK τ B W n) (hM : MRel τ A) (h : WF A W D RS TP ST) (hP : PK σ q1 τ B K L F H n tf gv) (ht : t < 4) (hR : 1 ≤ RS t) (hp : TP t = p) (hD : D t = c.1) (hty : tyC L H c) (h13 : K.1 (aNext K c).1 = 13) (hCd : Cd m σ r (r + 6 + 5 * t) K c e) (hME : ME τ t (aMid c ((aNext K c).1 + 1, (aNext K c).2.1, (aNext K c).2.2 - 1))) (h42 : τ.1 468 42 = (aNext K c).2.1 ((aNext K c).2.2 - 1)) (hst : σ.1 (r + 5 + 5 * t) 1 = 1) (hmo : ∃ mo, mo ≤ 60 ∧ c.1 ≤ mo ∧ A (140 + 20 * t) = nI mo) : p_X4_leaveFrame r (nI t) (nI p) N σ ∧ p_X9_doReturn (nI t) N τ ∧ EvR 2 24 m sl al r t W n K L H dT dM e T M σ τ A D RS TP ST (aLeave c (aNext K c)) (r_X4_leaveFrame r (nI t) (nI p) N σ).1 (r_X4_leaveFrame r (nI t) (nI p) N σ).2 (s_X9_doReturn (nI t) N τ) := by
  have hW := h.1
  obtain ⟨w1, -, wD, -, wR, wRD, -, wS, wT, -⟩ := h.2.1 t ht
  obtain ⟨wT, hpW⟩ := wT hR
  rw [hp] at wT hpW
  rw [hD] at wD wS wRD
  have hST : ST t = 1 := wS.mpr hty.1.1
  have d60 := hty.1
  have hw6 := hP.1
  obtain ⟨tb, -, tq, -⟩ := ty_top hw6 hty
  have hHn := (hw6.2.2.2 _ tq.1)
  have hH1 : H (aNext K c).1 = 1 := by
    have gI := hHn.2
    unfold wfI at gI
    rw [h13] at gI
    exact gI
  have hh : 1 ≤ (aNext K c).2.2 ∧ (aNext K c).2.2 ≤ 1680 := by rw [tq.2]; omega
  -- the class leaves, its window is free
  obtain ⟨c1, c2, c3, c4, c6, c5⟩ := co_leave (r := r) hw6 ⟨by omega, by omega⟩ hty h13 hCd
  have tk := tk_eq hs.2.2 ht
  unfold p_X4_leaveFrame r_X4_leaveFrame u_X4_leaveFrame_5 u_X4_leaveFrame_4 u_X4_leaveFrame_3 u_X4_leaveFrame_2 u_X4_leaveFrame_1
  rw [tk, show r + 5 + 5 * t + 1 = r + 6 + 5 * t by omega]
  have ptr : m = 0 → (s_X0_leave (r + 6 + 5 * t) σ).2 (r + 6 + 5 * t) 4 = 1000001 := fun z => by
    rw [c5.1]
    rcases hCd with y | y
    · exact y.2.2
    · exact absurd (z.symm.trans y.1) (by decide)
  generalize s_X0_leave (r + 6 + 5 * t) σ = σ1 at c2 c3 c4 c5 c6 ptr
  have C1 : CRel sl al σ1 r (upd A (137 + 20 * t) (nI (c.1 - 1))) := by
    intro b j i hk
    by_cases y : b = r + 6 + 5 * t ∧ j = 0
    · have ei : i = 137 + 20 * t := (hk.inj (lk_d (sl := sl) (al := al) (r := r) ht)).mp y
      rw [y.1, y.2, ei, pk_us]
      exact c2
    · have ei : ¬ i = 137 + 20 * t := fun z => y ((hk.inj (lk_d (sl := sl) (al := al) (r := r) ht)).mpr z)
      rw [pk_un ei, c5.2 b j (fun z => by
        unfold sA5 at z
        unfold Lk at hk
        rcases hk with hk | hk | hk | ⟨u, hk⟩ | ⟨u, hk⟩ <;> omega)]
      exact hC b j i hk
  have S1 : CSt σ1 r W n := hs.fr c5 (fun q j y => by unfold sA5 at y; omega)
  obtain ⟨o1, o2, o3, o4⟩ := cl_out (w := p) hl S1 C1 ht (by omega)
  generalize s_X4_moveOut r (nI t) (nI p) σ1 = σ2 at o2 o3 o4
  generalize hA2 : aOut (upd A (137 + 20 * t) (nI (c.1 - 1))) t p = A2 at o2
  have nA : ∀ i, ¬ i = 12 + p → ¬ i = 24 + p → ¬ i = 137 + 20 * t → ¬ i = 138 + 20 * t → A2 i = A i := fun i n1 n2 n3 n4 => by
    rw [← hA2, aOut_n n1 n2 n4, pk_un n3]
  have a137 : A2 (137 + 20 * t) = nI (c.1 - 1) := by rw [← hA2, aOut_n (by omega) (by omega) (by omega), pk_us]
  have a138 : A2 (138 + 20 * t) = nI (RS t - 1) := by
    rw [← hA2]
    unfold aOut
    rw [pk_us, pk_un (by omega), wR, nI_s1 hR]
  have a12 : A2 (12 + p) = -1 := by
    rw [← hA2]
    unfold aOut
    rw [pk_un (by omega), pk_un (by omega), pk_us]
  have s2d : σ2.1 (r + 6 + 5 * t) 0 = nI (c.1 - 1) := by rw [o2 _ _ _ (lk_d ht), a137]
  have s2r : σ2.1 (r + 5 + 5 * t) 2 = nI (RS t - 1) := by rw [o2 _ _ _ (lk_r ht), a138]
  have s2l : σ2.1 (r + 5 + 5 * t) 3 = nI p := by
    rw [o4.2 _ _ (fun z => by unfold sW at z; omega), c5.2 _ _ (fun z => by unfold sA5 at z; omega), h3 t ht hR, hp]
  have O2 : COf al σ2 r A2 dT dM T M := by
    refine hO.eq ?_ ?_ (fun j => ?_) (fun i hi => nA i (by omega) (by omega) (by omega) (by omega))
    · rw [o4.2 _ _ (fun z => by unfold sW at z; omega), c5.2 _ _ (fun z => by unfold sA5 at z; omega)]
    · rw [o4.2 _ _ (fun z => by unfold sW at z; omega), c5.2 _ _ (fun z => by unfold sA5 at z; omega)]
    · rw [o4.2 _ _ (fun z => by unfold sW at z; omega), c5.2 _ _ (fun z => by unfold sA5 at z; omega)]
  have F2 : ∀ q j, ¬ sXc r t q j → σ2.1 q j = σ.1 q j := fun q j hq => by
    have q2' : ¬ sRm r q j := fun y => hq (Or.inl (Or.inl y))
    have q4' : ¬ sW r t q j := fun y => q2' (by
      unfold sW at y
      rcases y with y | y
      · unfold sRm
        omega
      · exact Or.inr (Or.inr (Or.inr (Or.inr ⟨t, ht, y.1, by omega⟩))))
    rw [o4.2 q j q4', c5.2 q j (fun y => hq (Or.inr (Or.inr (by unfold sA5 at y; omega))))]
  have R2 : ∀ q j, σ2.2 q j = σ.2 q j := fun q j => by rw [o4.1, c5.1]
  -- the reference frees its window
  have i12 : (f_X9_atTask (nI t) 12).toNatClampNeg = 148 + 20 * t := by rw [at_12, nI_clamp (by omega)]; omega
  have i0 : (f_X9_atTask (nI t) 0).toNatClampNeg = 136 + 20 * t := by rw [at_0, nI_clamp (by omega)]; omega
  have i1 : (f_X9_atTask (nI t) 1).toNatClampNeg = 137 + 20 * t := by rw [at_1, nI_clamp (by omega)]; omega
  have i2 : (f_X9_atTask (nI t) 2).toNatClampNeg = 138 + 20 * t := by rw [at_2, nI_clamp (by omega)]; omega
  have i11 : (f_X9_atTask (nI t) 11).toNatClampNeg = 147 + 20 * t := by rw [at_11, nI_clamp (by omega)]; omega
  have vv : vp_in (f_X9_atTask (nI t) 0) 14241 ∧ vp_in (f_X9_atTask (nI t) 1) 14241 ∧ vp_in (f_X9_atTask (nI t) 2) 14241 ∧ vp_in (f_X9_atTask (nI t) 11) 14241 ∧ vp_in (f_X9_atTask (nI t) 12) 14241 := by
    rw [at_0, at_1, at_2, at_11, at_12]
    exact ⟨vp_in_nI (by omega) (by decide), vp_in_nI (by omega) (by decide), vp_in_nI (by omega) (by decide), vp_in_nI (by omega) (by decide), vp_in_nI (by omega) (by decide)⟩
  have eTop : τ.1 469 (148 + 20 * t) = nI p := by rw [hM _ (by omega), wT]
  obtain ⟨q1', q2', q3'⟩ := rf_place (w := p) (x := -1) (y := -1) hM (by omega)
  have pfree : p_X9_free (nI p) τ := q1'
  unfold s_X9_doReturn p_X9_doReturn u_X9_doReturn_10 u_X9_doReturn_9 u_X9_doReturn_8 u_X9_doReturn_7 u_X9_doReturn_6 u_X9_doReturn_5 u_X9_doReturn_4 u_X9_doReturn_3 u_X9_doReturn_2 u_X9_doReturn_1
  rw [i12, i0, i1, i2, i11, eTop]
  have ef : s_X9_free (nI p) τ = s_X9_place (nI p) (-1) (-1) τ := rfl
  rw [ef]
  generalize s_X9_place (nI p) (-1) (-1) τ = τ1 at q2' q3'
  have x1 : τ1.1 469 (137 + 20 * t) = nI c.1 := by rw [q2' _ (by omega), pk_un (by omega), pk_un (by omega), wD]
  have x2 : (zuI τ1 469 (137 + 20 * t) (nI c.1 - 1)).1 469 (138 + 20 * t) = nI (RS t) := by rw [gI_n (by omega), q2' _ (by omega), pk_un (by omega), pk_un (by omega), wR]
  rw [x1, x2, nI_s1 d60.1, nI_s1 hR]
  have M4 : MRel (zuI (zuI (zuI τ1 469 (137 + 20 * t) (nI (c.1 - 1))) 469 (138 + 20 * t) (nI (RS t - 1))) 469 10 (nI p)) (upd A2 10 (nI p)) := by
    have e : upd (upd (upd (upd A (12 + p) (-1)) (24 + p) (-1)) (137 + 20 * t) (nI (c.1 - 1))) (138 + 20 * t) (nI (RS t - 1)) = A2 := by
      rw [← hA2]
      unfold aOut
      rw [pk_un (by omega), wR, nI_s1 hR, upd_c (i := 24 + p) (j := 137 + 20 * t) (by omega), upd_c (i := 12 + p) (j := 137 + 20 * t) (by omega)]
    rw [← e]
    exact q2'.up.up.up
  have F4 : rfr sN τ (zuI (zuI (zuI τ1 469 (137 + 20 * t) (nI (c.1 - 1))) 469 (138 + 20 * t) (nI (RS t - 1))) 469 10 (nI p)) := ((q3'.uI (show sN 469 (137 + 20 * t) from ⟨rfl, by omega⟩)).uI (show sN 469 (138 + 20 * t) from ⟨rfl, by omega⟩)).uI (show sN 469 10 from ⟨rfl, by omega⟩)
  generalize zuI (zuI (zuI τ1 469 (137 + 20 * t) (nI (c.1 - 1))) 469 (138 + 20 * t) (nI (RS t - 1))) 469 10 (nI p) = τ4 at M4 F4
  obtain ⟨fr1, fr2, -⟩ := rf_frm M4 ht
  rw [pk_un (by omega), a137] at fr1
  have h42' : τ4.1 468 42 = (aNext K c).2.1 ((aNext K c).2.2 - 1) := (F4.2 _ _ (fun z => by unfold sN at z; omega)).trans h42
  rw [fr1, s2d]
  obtain ⟨mo, mo60, mo1, emo⟩ := hmo
  have a140 : A2 (140 + 20 * t) = nI mo := (nA _ (by omega) (by omega) (by omega) (by omega)).trans emo
  have fs : ∀ q j, sN q j → sYm t q j := fun q j y => Or.inl y
  have same : ∀ i, (i = 0 ∨ (3 ≤ i ∧ i ≤ 10) ∨ ∃ v, v < 4 ∧ (i = 139 + 20 * v ∨ i = 140 + 20 * v ∨ (¬ v = t ∧ i = 147 + 20 * v))) → A2 i = A i := fun i hi => by
    apply nA
    all_goals rcases hi with y | y | ⟨u, y⟩ <;> omega
  have latest : ∀ v, v < 4 → ¬ v = t → 1 ≤ RS v → σ2.1 (r + 5 + 5 * v) 3 = nI (TP v) := fun v hv hvt hv1 => by
    rw [o4.2 _ _ (fun z => by unfold sW at z; omega), c5.2 _ _ (fun z => by unfold sA5 at z; omega)]
    exact h3 v hv hv1
  have s2s : σ2.1 (r + 5 + 5 * t) 1 = 1 := by
    rw [o4.2 _ _ (fun z => by unfold sW at z; omega), c5.2 _ _ (fun z => by unfold sA5 at z; omega)]
    exact hst
  have hret : ∀ A3 : Nat → Int32, (∀ i, ¬ i = 136 + 20 * t → ¬ i = 147 + 20 * t → ¬ i = 148 + 20 * t → A3 i = A2 i) → A3 (136 + 20 * t) = nI (if D t = 1 then 2 else 1) → (2 ≤ RS t → A3 (148 + 20 * t) = nI (wat W p 1)) → WF A3 W (fu D t (c.1 - 1)) (fu RS t (RS t - 1)) (fu TP t (wat W p 1)) (fu ST t (if c.1 = 1 then 2 else 1)) := fun A3 n3 e136 e148 => by
    have := wf_ret (A1 := A3) h ht hR (fun i hi n1 n2 n4 n5 n6 n7 => by
      rw [n3 i n1 (fun z => by unfold wfp at hi; rcases hi with y | y | y | ⟨u, y⟩ <;> omega) n5]
      rw [hp] at n6 n7
      exact nA i n6 n7 n2 n4) e136 (by rw [n3 _ (by omega) (by omega) (by omega), a137, hD]) (by rw [n3 _ (by omega) (by omega) (by omega), a138]) (fun y => by rw [hp]; exact e148 y) (by rw [hp, n3 _ (by omega) (by omega) (by omega)]; exact a12)
    rw [hD, hp] at this
    exact this
  by_cases cD : c.1 = 1
  · -- it is done
    have z0 : nI (c.1 - 1) = 0 := by rw [cD]; rfl
    rw [z0, if_pos rfl, if_pos rfl]
    rw [z0] at a137
    have x5 : (zuI τ4 469 (136 + 20 * t) 2).1 468 42 = (aNext K c).2.1 ((aNext K c).2.2 - 1) := by rw [gI_n (by omega)]; exact h42'
    rw [x5]
    have lno : ∀ i, ¬ Lk sl al r (r + 5 + 5 * t) 1 i := fun i y => by
      unfold Lk at y
      rcases y with y | y | y | ⟨u, y⟩ | ⟨u, y⟩ <;> omega
    have C3 : CRel sl al (zuI σ2 (r + 5 + 5 * t) 1 2) r (upd (upd A2 (136 + 20 * t) 2) (147 + 20 * t) ((aNext K c).2.1 ((aNext K c).2.2 - 1))) := ((o2.sk lno).any (lk_no (by
      right; right; right; right; right
      exact ⟨t, ht, by omega⟩))).any (lk_no (by
      right; right; right; right; right
      exact ⟨t, ht, by omega⟩))
    have hWF := hret (upd (upd A2 (136 + 20 * t) 2) (147 + 20 * t) ((aNext K c).2.1 ((aNext K c).2.2 - 1))) (fun i n1 n2 n3 => by rw [pk_un n2, pk_un n1]) (by rw [pk_un (by omega), pk_us, hD, if_pos cD]; rfl) (fun y => by omega)
    rw [if_pos cD] at hWF
    generalize hA3 : upd (upd A2 (136 + 20 * t) 2) (147 + 20 * t) ((aNext K c).2.1 ((aNext K c).2.2 - 1)) = A3 at C3 hWF
    have n3 : ∀ i, ¬ i = 136 + 20 * t → ¬ i = 147 + 20 * t → A3 i = A2 i := fun i n1 n2 => by rw [← hA3, pk_un n2, pk_un n1]
    have emx : mxI (A3 (140 + 20 * t)) (A3 (137 + 20 * t)) = A3 (140 + 20 * t) := by
      unfold mxI
      rw [n3 _ (by omega) (by omega), n3 _ (by omega) (by omega), a140, a137, if_neg (nI_pos (by omega))]
    refine ⟨⟨tk_p hl hs.2.2 ht, c1, o1, fun y => absurd rfl y⟩, ⟨vv.2.2.2.2, pfree, vv.2.1, vv.2.2.1, fr2, fun y => absurd rfl y, fun _ => ⟨vv.1, vv.2.2.2.1⟩⟩, A3, fu D t (c.1 - 1), fu RS t (RS t - 1), fu TP t (wat W p 1), fu ST t 2, T, M, p, ⟨?_, hpW⟩, C3, o3.uI (by omega), ?_, fun v hv hv1 => ?_, ?_, hWF, Or.inl ?_, by omega, by omega, fun q j hq => ?_, fun q j _ => R2 q j, ?_, ?_, fun v hv => ⟨fu_n hv, fu_n hv⟩, Or.inr ⟨by rw [fu_s]; omega, fun _ z => ?_, fun z => ?_, fun z => ?_, Or.inl ⟨show c.1 - 1 = 0 by omega, fu_s⟩⟩, fun i hi => ?_, by rw [fu_s]; omega⟩
    · show (zuI σ2 (r + 5 + 5 * t) 1 2).1 (r + 5 + 5 * t) 3 = nI p
      rw [gI_n (by omega)]
      exact s2l
    · exact O2.eq (gI_n (by omega)) (gI_n (by omega)) (fun j => gI_n (by omega)) (fun i hi => n3 i (by omega) (by omega))
    · show (zuI σ2 (r + 5 + 5 * t) 1 2).1 (r + 5 + 5 * v) 3 = _
      rw [gI_n (by omega)]
      by_cases cc : v = t
      · subst cc
        rw [fu_s] at hv1
        omega
      · rw [fu_n cc] at hv1
        rw [fu_n cc]
        exact latest v hv cc hv1
    · rw [emx, upd_same rfl, ← hA3, upd_c (i := 147 + 20 * t) (j := 10) (by omega), upd_c (i := 136 + 20 * t) (j := 10) (by omega)]
      exact M4.up.up
    · rw [n3 _ (by omega) (by omega)]
      exact a12
    · show (zuI σ2 (r + 5 + 5 * t) 1 2).1 q j = σ.1 q j
      rw [gI_n (fun y => hq (Or.inr (Or.inl y)))]
      exact F2 q j hq
    · have ff : rfr (sYm t) τ τ4 := F4.wk fs
      exact (ff.uI (Or.inl ⟨rfl, by omega⟩)).uI (Or.inl ⟨rfl, by omega⟩)
    · show (zuI σ2 (r + 5 + 5 * t) 1 2).1 (r + 5 + 5 * t) 1 = _
      rw [gI_h rfl rfl, fu_s]
      rfl
    · show (zuI σ2 (r + 5 + 5 * t) 1 2).1 (r + 6 + 5 * t) 3 = _
      rw [gI_n (by omega), o4.2 _ _ (fun z => by unfold sW at z; omega), c4 z cD, ← hA3, pk_us]
    · show σ2.2 (r + 6 + 5 * t) 4 = 1000001
      rw [o4.1]
      exact ptr z
    · obtain ⟨hh, hh1, hh2⟩ := c6 z
      refine ⟨hh, hh1, ?_⟩
      show (zuI σ2 (r + 5 + 5 * t) 1 2).1 (r + 6 + 5 * t) 2 = nI hh
      rw [gI_n (by omega), o4.2 _ _ (fun w => by unfold sW at w; omega)]
      exact hh2
    · rw [n3 i (by rcases hi with y | y | ⟨u, y⟩ <;> omega) (by rcases hi with y | y | ⟨u, y⟩ <;> omega)]
      exact same i hi
  · have z0 : ¬ nI (c.1 - 1) = 0 := nI_ne0 (by omega) (by omega)
    rw [if_neg z0, if_neg z0, s2r]
    have e136 : A2 (136 + 20 * t) = nI (if D t = 1 then 2 else 1) := by
      rw [nA _ (by omega) (by omega) (by omega) (by omega), w1, hST, hD, if_neg cD]
    -- the value comes back
    have ME4 : ME τ4 t (aMid c ((aNext K c).1 + 1, (aNext K c).2.1, (aNext K c).2.2 - 1)) := hME.fr (show c.1 ≤ 60 by omega) (show (aNext K c).2.2 - 1 ≤ 2440 by omega) F4 (fun j y => by unfold sN at y; omega)
    obtain ⟨k1, k2, k3⟩ := ref_back_C (s := aNext K c) (show t ≤ 4 by omega) (by omega) d60.2 ⟨hh.1, by omega⟩ ME4
    rw [← h42'] at k1 k2 k3
    have M5 : MRel (s_X9_put (nI t) (τ4.1 468 42) τ4) (upd A2 10 (nI p)) := M4.fr k3 (fun q j y => by unfold sM at y; omega)
    have F5 : rfr (sYm t) τ (s_X9_put (nI t) (τ4.1 468 42) τ4) := (F4.wk fs).tr (k3.wk (fun q j y => by
      unfold sM at y
      exact Or.inr (Or.inr (Or.inr ⟨y.1, by omega, by omega⟩))))
    have K5 : WK (s_X9_put (nI t) (τ4.1 468 42) τ4) B W n := (hK.fr F4 (fun q j y => sN_W y)).fr k3 (fun q j y => by unfold sM at y; omega)
    generalize s_X9_put (nI t) (τ4.1 468 42) τ4 = τ5 at k2 k3 M5 F5 K5
    obtain ⟨-, -, rs1, rs2, -, -⟩ := rf_frm M5 ht
    rw [pk_un (by omega), a138] at rs1
    rw [rs1]
    have tyL := ty_leave hw6 hty h13 (by omega)
    have hL60 : (aLeave c (aNext K c)).1 ≤ 60 := tyL.1.2
    have hLh : (aLeave c (aNext K c)).2.2.2.2 ≤ 2440 := by
      show (if c.1 = 1 then (aNext K c).2.2 - 1 else (aNext K c).2.2) ≤ 2440
      rw [if_neg cD]
      omega
    by_cases cR : RS t = 1
    · -- it is filled again
      have r0 : nI (RS t - 1) = 0 := by rw [cR]; rfl
      rw [r0, if_pos rfl, if_pos rfl]
      have hWF := hret A2 (fun _ _ _ _ => rfl) e136 (fun y => by omega)
      rw [if_neg cD, show RS t - 1 = 0 by omega] at hWF
      have hWF' : WF (upd A2 10 (nI p)) W (fu D t (c.1 - 1)) (fu RS t 0) (fu TP t (wat W p 1)) (fu ST t 1) := hWF.sk (by
        unfold wfp
        rintro (y | y | y | ⟨u, y⟩) <;> omega)
      have C2' : CRel sl al σ2 r (upd A2 10 (nI p)) := o2.any lk_10
      have O2' : COf al σ2 r (upd A2 10 (nI p)) dT dM T M := O2.eq rfl rfl (fun _ => rfl) (fun i hi => pk_un (by omega))
      obtain ⟨f1, f2, A6, cnt, M6, f3, f4, f5, f6, f7, f8, f9, f10, f11, f12⟩ := pr_fill (d := c.1 - 1) hl hN o3 C2' O2' (by omega) K5 M5 hWF' ht hpW fu_s (by omega) fu_s ((pk_un (by omega)).trans a12)
      have fRm : ∀ q j, (sRm r q j ∨ (q = r + 5 + 5 * t ∧ (j = 9 ∨ j = 11))) → (r ≤ q ∧ q < r + 25) ∧ (∀ v, v < 4 → q < r + 6 + 5 * v ∨ r + 10 + 5 * v ≤ q) ∧ (∀ v, v < 4 → ¬ (q = r + 5 + 5 * v ∧ (j = 1 ∨ j = 3))) := fun q j y => by
        unfold sRm at y
        rcases y with (y | y | y | y | ⟨u, y⟩) | y
        all_goals refine ⟨by omega, fun v hv => by omega, fun v hv => by omega⟩
      generalize s_X4_fill r (nI t) (nI p) N σ2 = σ6 at f3 f4 f5 f6
      generalize s_X9_fill (nI t) (nI p) N τ5 = τ6 at f7 f8
      have e1 : fu (fu TP t (wat W p 1)) t p = fu TP t p := by
        funext s
        unfold fu
        by_cases cc : s = t
        · rw [if_pos cc, if_pos cc]
        · rw [if_neg cc, if_neg cc, if_neg cc]
      have e2 : fu (fu RS t 0) t cnt = fu RS t cnt := by
        funext s
        unfold fu
        by_cases cc : s = t
        · rw [if_pos cc, if_pos cc]
        · rw [if_neg cc, if_neg cc, if_neg cc]
      rw [e1, e2] at f9
      have l6 : σ6.1 (r + 5 + 5 * t) 3 = nI p := by
        rw [f6.2 _ _ (fun y => (fRm _ _ y).2.2 t ht ⟨rfl, Or.inr rfl⟩)]
        exact s2l
      have n6 : ∀ i, (i = 0 ∨ (3 ≤ i ∧ i ≤ 10) ∨ ∃ u, u < 4 ∧ (i = 136 + 20 * u ∨ i = 137 + 20 * u ∨ i = 139 + 20 * u ∨ i = 140 + 20 * u ∨ i = 147 + 20 * u)) → ¬ i = 10 → A6 i = A2 i := fun i hi hn => (f12 i hi).trans (pk_un hn)
      have b140 : A6 (140 + 20 * t) = nI mo := (n6 _ (Or.inr (Or.inr ⟨t, ht, by omega⟩)) (by omega)).trans a140
      have b137 : A6 (137 + 20 * t) = nI (c.1 - 1) := (n6 _ (Or.inr (Or.inr ⟨t, ht, by omega⟩)) (by omega)).trans a137
      have b10 : A6 10 = nI p := (f12 10 (Or.inr (Or.inl (by omega)))).trans pk_us
      have emx : mxI (A6 (140 + 20 * t)) (A6 (137 + 20 * t)) = A6 (140 + 20 * t) := by
        unfold mxI
        rw [b140, b137, if_neg (nI_nlt (by omega) (by omega))]
      -- the class's own row still tells the window used before
      have C6 : CRel sl al σ6 r (upd A6 10 (A 10)) := f3.any lk_10
      refine ⟨⟨tk_p hl hs.2.2 ht, c1, o1, fun _ _ => f1⟩, ⟨vv.2.2.2.2, pfree, vv.2.1, vv.2.2.1, fr2, fun _ => ⟨k1, rs2, fun y => absurd rfl y, fun _ => f2⟩, fun y => absurd y z0⟩, upd A6 10 (A 10), fu D t (c.1 - 1), fu RS t cnt, fu TP t p, fu ST t 1, T + 1, M6, p, ⟨l6, hpW⟩, C6, f4, ?_, fun v hv hv1 => ?_, ?_, ?_, Or.inr ⟨by rw [fu_s]; exact f10, fu_s⟩, by omega, by omega, fun q j hq => ?_, fun q j _ => ?_, ?_, ?_, fun v hv => ⟨fu_n hv, fu_n hv⟩, Or.inl ⟨fu_s, fu_s.symm, tyL, ?_, ?_⟩, fun i hi => ?_, ?_⟩
      · exact f5.eq rfl rfl (fun _ => rfl) (fun i hi => pk_un (by omega))
      · show σ6.1 (r + 5 + 5 * v) 3 = _
        by_cases cc : v = t
        · subst cc
          rw [fu_s]
          exact l6
        · rw [fu_n cc] at hv1
          rw [fu_n cc, f6.2 _ _ (fun y => (fRm _ _ y).2.2 v hv ⟨rfl, Or.inr rfl⟩)]
          exact latest v hv cc hv1
      · rw [pk_un (by omega), pk_un (by omega), emx, upd_c (i := 10) (j := 140 + 20 * t) (by omega), upd_same rfl, upd_two, upd_same b10]
        exact f7
      · exact f9.sk (by
          unfold wfp
          rintro (y | y | y | ⟨u, y⟩) <;> omega)
      · show σ6.1 q j = σ.1 q j
        rw [f6.2 q j (fun y => hq ?_)]
        · exact F2 q j hq
        · rcases y with y | y
          · exact Or.inl (Or.inl y)
          · exact Or.inl (Or.inr ⟨t, ht, y.1, by omega⟩)
      · show σ6.2 q j = σ.2 q j
        rw [f6.1]
        exact R2 q j
      · exact F5.tr (f8.wk fs)
      · show σ6.1 (r + 5 + 5 * t) 1 = _
        rw [f6.2 _ _ (fun y => (fRm _ _ y).2.2 t ht ⟨rfl, Or.inl rfl⟩), s2s, fu_s]
        rfl
      · exact k2.fr hL60 hLh f8 (fun j y => by unfold sN at y; omega)
      · have q6 : rfr (fun q j => sW r t q j ∨ (sRm r q j ∨ (q = r + 5 + 5 * t ∧ (j = 9 ∨ j = 11)))) σ1 σ6 := (o4.wk (fun q j y => Or.inl y)).tr (f6.wk (fun q j y => Or.inr y))
        refine (c3 (by omega)).fr q6 (fun q j y => ?_)
        rcases y with y | y
        · unfold sW at y
          omega
        · have := fRm q j y
          exact ⟨this.1, by have := this.2.1 t ht; omega⟩
      · rw [← same i hi]
        by_cases ci : i = 10
        · rw [ci, pk_us, nA _ (by omega) (by omega) (by omega) (by omega)]
        · rw [pk_un ci]
          refine n6 i ?_ ci
          rcases hi with y | y | ⟨u, y⟩
          · exact Or.inl y
          · exact Or.inr (Or.inl y)
          · exact Or.inr (Or.inr ⟨u, y.1, by omega⟩)
      · exact (f9.lim ht).1
    · -- the one ahead is there
      have r0 : ¬ nI (RS t - 1) = 0 := nI_ne0 (by omega) (by have := (h.lim ht).1; omega)
      rw [if_neg r0, if_neg r0]
      obtain ⟨-, -, bk⟩ := rf_behind K5 hW hpW
      obtain ⟨bk1, bk2⟩ := bk 1 (by omega)
      have bk1 : f_X9_behind (nI p) (-1) τ5 = nI (wat W p 1) := bk1
      have bk2 : p_X9_behind (nI p) (-1) τ5 := bk2
      rw [bk1]
      have K6 : WK (zuI τ5 469 (148 + 20 * t) (nI (wat W p 1))) B W n := K5.fr (rfr.rf.uI (show sN 469 (148 + 20 * t) from ⟨rfl, by omega⟩)) (fun q j y => sN_W y)
      obtain ⟨-, -, bl⟩ := rf_behind K6 hW hpW
      obtain ⟨bl1, bl2⟩ := bl 1 (by omega)
      have bl1 : f_X9_behind (nI p) (-1) (zuI τ5 469 (148 + 20 * t) (nI (wat W p 1))) = nI (wat W p 1) := bl1
      have bl2 : p_X9_behind (nI p) (-1) (zuI τ5 469 (148 + 20 * t) (nI (wat W p 1))) := bl2
      rw [bl1]
      have ea := cl_ahead o3 hW hpW
      rw [ea]
      have hx : wat W p 1 < W := wat_lt hpW (by omega)
      have lno : ∀ i, ¬ Lk sl al r (r + 5 + 5 * t) 3 i := fun i y => by
        unfold Lk at y
        rcases y with y | y | y | ⟨u, y⟩ | ⟨u, y⟩ <;> omega
      have C3 : CRel sl al (zuI σ2 (r + 5 + 5 * t) 3 (nI (wat W p 1))) r (upd A2 (148 + 20 * t) (nI (wat W p 1))) := (o2.sk lno).any (lk_no (by
        right; right; right; right; right
        exact ⟨t, ht, by omega⟩))
      have hWF := hret (upd A2 (148 + 20 * t) (nI (wat W p 1))) (fun i _ _ n3 => pk_un n3) (by rw [pk_un (by omega)]; exact e136) (fun _ => pk_us)
      rw [if_neg cD] at hWF
      generalize hA3 : upd A2 (148 + 20 * t) (nI (wat W p 1)) = A3 at C3 hWF
      have n3 : ∀ i, ¬ i = 148 + 20 * t → A3 i = A2 i := fun i n1 => by rw [← hA3, pk_un n1]
      have emx : mxI (A3 (140 + 20 * t)) (A3 (137 + 20 * t)) = A3 (140 + 20 * t) := by
        unfold mxI
        rw [n3 _ (by omega), n3 _ (by omega), a140, a137, if_neg (nI_nlt (by omega) (by omega))]
      have M6 : MRel (zuI (zuI τ5 469 (148 + 20 * t) (nI (wat W p 1))) 469 10 (nI (wat W p 1))) (upd A3 10 (nI (wat W p 1))) := by
        have e : upd (upd (upd A2 10 (nI p)) (148 + 20 * t) (nI (wat W p 1))) 10 (nI (wat W p 1)) = upd A3 10 (nI (wat W p 1)) := by rw [upd_c (i := 10) (j := 148 + 20 * t) (by omega), upd_two, hA3]
        rw [← e]
        exact M5.up.up
      have F6 : rfr sN τ5 (zuI (zuI τ5 469 (148 + 20 * t) (nI (wat W p 1))) 469 10 (nI (wat W p 1))) := (rfr.rf.uI (show sN 469 (148 + 20 * t) from ⟨rfl, by omega⟩)).uI (show sN 469 10 from ⟨rfl, by omega⟩)
      refine ⟨⟨tk_p hl hs.2.2 ht, c1, o1, fun _ y => absurd y r0⟩, ⟨vv.2.2.2.2, pfree, vv.2.1, vv.2.2.1, fr2, fun _ => ⟨k1, rs2, fun _ => ⟨bk2, bl2⟩, fun y => absurd y r0⟩, fun y => absurd y z0⟩, A3, fu D t (c.1 - 1), fu RS t (RS t - 1), fu TP t (wat W p 1), fu ST t 1, T, M, wat W p 1, ⟨gI_h rfl rfl, hx⟩, C3, o3.uI (by omega), ?_, fun v hv hv1 => ?_, ?_, hWF, Or.inr ⟨by rw [fu_s]; omega, fu_s⟩, by omega, by omega, fun q j hq => ?_, fun q j _ => R2 q j, F5.tr (F6.wk fs), ?_, fun v hv => ⟨fu_n hv, fu_n hv⟩, Or.inl ⟨fu_s, fu_s.symm, tyL, ?_, ?_⟩, fun i hi => ?_, ?_⟩
      · exact O2.eq (gI_n (by omega)) (gI_n (by omega)) (fun j => gI_n (by omega)) (fun i hi => n3 i (by omega))
      · show (zuI σ2 (r + 5 + 5 * t) 3 (nI (wat W p 1))).1 (r + 5 + 5 * v) 3 = _
        by_cases cc : v = t
        · subst cc
          rw [gI_h rfl rfl, fu_s]
        · rw [fu_n cc] at hv1
          rw [fu_n cc, gI_n (by omega)]
          exact latest v hv cc hv1
      · rw [emx, upd_same rfl]
        exact M6
      · show (zuI σ2 (r + 5 + 5 * t) 3 (nI (wat W p 1))).1 q j = σ.1 q j
        rw [gI_n (fun y => hq (Or.inl (Or.inr ⟨t, ht, y.1, by omega⟩)))]
        exact F2 q j hq
      · show (zuI σ2 (r + 5 + 5 * t) 3 (nI (wat W p 1))).1 (r + 5 + 5 * t) 1 = _
        rw [gI_n (by omega), s2s, fu_s]
        rfl
      · exact k2.fr hL60 hLh F6 (fun j y => by unfold sN at y; omega)
      · have q6 : rfr (fun q j => sW r t q j ∨ (q = r + 5 + 5 * t ∧ j = 3)) σ1 (zuI σ2 (r + 5 + 5 * t) 3 (nI (wat W p 1))) := (o4.wk (fun q j y => Or.inl y)).uI (Or.inr ⟨rfl, rfl⟩)
        refine (c3 (by omega)).fr q6 (fun q j y => ?_)
        rcases y with y | y
        · unfold sW at y
          omega
        · omega
      · rw [n3 i (by rcases hi with y | y | ⟨u, y⟩ <;> omega)]
        exact same i hi
      · rw [fu_s]
        have := (h.lim ht).1
        omega
