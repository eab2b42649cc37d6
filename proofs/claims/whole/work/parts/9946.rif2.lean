/-! the reference's IF: then, else, its end -/
section IS
variable {N : Nat} {E : EV} {σ σ1 σ2 τ τ1 τ2 : zS} {K K1 K2 : aK} {H H1 : Nat → Nat}
/-- THEN -/
theorem rf_thn {s1 e1 kd1 v1 w1 wt o L : Nat} {W : Nat → Nat} (hE : EN E σ1 τ1) (hT : TKs E.tx E.nb s1 e1 kd1 v1 w1 σ1 τ1) (h25 : τ1.1 468 25 = 0) (hS : SKs τ1 (wt + 1) W) (hw : W wt = 101) (h91 : τ1.1 491 wt = nI o) (hM : MKc τ1 E.b K L) (hL : L < 400) (hK : K.1 L = o ∧ K.2.1 L = 0) (hN : 200000 < N) : (¬ kd1 = 321 → p_X9_endSum (nI E.b) N τ1 ∧ FLm 1 τ1 (s_X9_endSum (nI E.b) N τ1)) ∧ (kd1 = 321 → p_X6_next N σ1 ∧ rfr sTC σ1 (s_X6_next N σ1) ∧ p_X9_endSum (nI E.b) N τ1 ∧ ∃ s2 e2 kd2 v2 w2, TKs E.tx E.nb s2 e2 kd2 v2 w2 (s_X6_next N σ1) (s_X9_endSum (nI E.b) N τ1) ∧ rfr (sRM E.b) τ1 (s_X9_endSum (nI E.b) N τ1) ∧ e1 ≤ s2 ∧ SKs (s_X9_endSum (nI E.b) N τ1) (wt + 1) (fun i => if i = wt then 102 else W i) ∧ (s_X9_endSum (nI E.b) N τ1).1 468 39 = 0 ∧ (s_X9_endSum (nI E.b) N τ1).1 490 wt = nI L ∧ MKc (s_X9_endSum (nI E.b) N τ1) E.b K (L + 1) ∧ (∀ Q j, ¬ (Q = 468 ∧ ((20 ≤ j ∧ j ≤ 24) ∨ j = 39)) → ¬ ((Q = 489 ∨ Q = 490) ∧ j = wt) → ¬ sLa E.b Q j → (s_X9_endSum (nI E.b) N τ1).1 Q j = τ1.1 Q j)) := by
  have tp : f_X9_top τ1 = 101 := top_at (c := 101) hS hw
  have b2 := hE.2.2.2.2.1.2.2
  have n10 : ¬ (1 : Int32) = 0 := by decide
  have z0 : (0 : Int32) ≤ 0 := by decide
  have nn : ∀ c : Int32, ¬ (101 : Int32) = c → ¬ f_X9_top τ1 = c := fun c y z => y (tp.symm.trans z)
  have ew : f_X9_isWord 11 τ1 = if kd1 = 321 then 1 else 0 := rk_word (c := 11) hT h25 (by decide)
  have se : s_X9_endSum (nI E.b) N τ1 = s_X9_goThen (nI E.b) N τ1 := by
    unfold s_X9_endSum
    rw [if_neg (nn _ (by decide)), if_pos tp]
    rfl
  have pe : p_X9_goThen (nI E.b) N τ1 → p_X9_endSum (nI E.b) N τ1 := fun y => ⟨hS.top.1, fun z => absurd z (nn _ (by decide)), fun _ => ⟨fun _ => y, fun z => absurd tp z⟩⟩
  rw [se]
  refine ⟨fun k1 => ?_, fun k1 => ?_⟩
  · rw [if_neg k1] at ew
    have ff : FLm 1 τ1 (s_X9_fail 1 τ1) := rf_fail (c := 1) h25
    have nz : ¬ (s_X9_fail 1 τ1).1 468 25 ≤ 0 := by
      have : s_X9_fail 1 τ1 = zuI (zuI τ1 468 25 (nI 1)) 468 26 (τ1.1 468 21) := ff
      rw [this, gI_n (by omega), gI_h rfl rfl]
      decide
    refine ⟨pe ?_, ?_⟩
    · unfold p_X9_goThen u_X9_goThen_6
      rw [ew]
      exact ⟨fun y => absurd rfl y, fun _ y => absurd y nz⟩
    · have : s_X9_goThen (nI E.b) N τ1 = s_X9_fail 1 τ1 := by
        unfold s_X9_goThen u_X9_goThen_6
        rw [ew, if_pos rfl, if_neg nz]
      rw [this]
      exact ff
  · rw [if_pos k1] at ew
    have hw1 := hS.2.1
    have cb : (nI E.b).toNatClampNeg = E.b := nI_clamp (by omega)
    have vb : vp_in (nI E.b) 2 := vp_in_nI b2 (by decide)
    have cw : (τ1.1 468 37 - 1).toNatClampNeg = wt := by
      rw [hS.1, nI_s1 (by omega), nI_clamp (by omega)]
      omega
    have vw : vp_in (τ1.1 468 37 - 1) 200 := by
      rw [hS.1, nI_s1 (by omega)]
      exact vp_in_nI (by omega) (by decide)
    have e1' : u_X9_goThen_1 (nI E.b) N τ1 = zuI τ1 489 wt 102 := by
      unfold u_X9_goThen_1
      rw [cw]
    have e2 : u_X9_goThen_2 (nI E.b) N τ1 = zuI (zuI τ1 489 wt 102) 490 wt (nI L) := by
      unfold u_X9_goThen_2
      rw [e1', gI_n (by omega), cw, cb, gI_n (by omega), hM.2]
    have e491 : (zuI (zuI τ1 489 wt 102) 490 wt (nI L)).1 491 (((zuI (zuI τ1 489 wt 102) 490 wt (nI L)).1 468 37) - 1).toNatClampNeg = nI o := by
      rw [gI_n (by omega), gI_n (by omega), gI_n (by omega), gI_n (by omega), cw]
      exact h91
    have hM2 : MKc (zuI (zuI τ1 489 wt 102) 490 wt (nI L)) E.b K L := hM.eq (fun Q j y => by rw [gI_n (by omega), gI_n (by omega)])
    obtain ⟨l1, l2, l3⟩ := rf_lay (x := nI o) (y := 0) hM2 b2 hL (by rw [hK.1]) hK.2.symm
    have e3 : u_X9_goThen_3 (nI E.b) N τ1 = s_X9_lay (nI E.b) (nI o) 0 (zuI (zuI τ1 489 wt 102) 490 wt (nI L)) := by
      unfold u_X9_goThen_3
      rw [e2, e491]
    generalize hτa : s_X9_lay (nI E.b) (nI o) 0 (zuI (zuI τ1 489 wt 102) 490 wt (nI L)) = τa at *
    have oA : ∀ Q j, ¬ ((Q = 489 ∨ Q = 490) ∧ j = wt) → ¬ sLa E.b Q j → τa.1 Q j = τ1.1 Q j := fun Q j y y2 => by rw [l3.2 _ _ y2, gI_n (by omega), gI_n (by omega)]
    have fa : rfr (sRM E.b) τ1 τa := ⟨l3.1, fun Q j y => oA Q j (fun z => y (by unfold sRM; omega)) (fun z => y (Or.inr (Or.inr (Or.inl z))))⟩
    obtain ⟨n1, n2, n3, s2, e2', kd2, v2, w2, t1, t2, t3, t4⟩ := nx_step (N := N) (sg := 0) hE hT fa (oA _ _ (by omega) (fun z => by unfold sLa at z; omega)) hN
    have sg : s_X9_goThen (nI E.b) N τ1 = zuI (s_X9_scan N τa) 468 39 (nI 0) ∧ p_X9_goThen (nI E.b) N τ1 := by
      unfold s_X9_goThen p_X9_goThen
      rw [ew]
      refine ⟨?_, fun _ _ => ⟨vw, vb, by rw [e1', gI_n (by omega)]; exact vw, by rw [e2, gI_n (by omega), gI_n (by omega)]; exact vw, by rw [e2, e491]; exact l1, by rw [e3]; exact n2⟩, fun y => absurd y n10⟩
      rw [if_neg n10, h25, if_pos z0]
      unfold u_X9_goThen_5 u_X9_goThen_4
      rw [e3]
      rfl
    refine ⟨n1, n3, pe sg.2, s2, e2', kd2, v2, w2, ?_⟩
    rw [sg.1]
    refine ⟨t1, t2, t3, ⟨?_, hw1, fun i hi => ?_⟩, gI_h rfl rfl, ?_, l2.eq (fun Q j y => t4 _ _ (by omega)), fun Q j y1 y2 y3 => ?_⟩
    · rw [t4 _ _ (by omega), oA _ _ (by omega) (fun z => by unfold sLa at z; omega)]; exact hS.1
    · show (if i = wt then 102 else W i) < 128 ∧ _ = nI (if i = wt then 102 else W i)
      rw [t4 _ _ (by omega)]
      by_cases c : i = wt
      · rw [if_pos c, c, l3.2 _ _ (fun z => by unfold sLa at z; omega), gI_n (by omega), gI_h rfl rfl]
        exact ⟨by decide, rfl⟩
      · rw [if_neg c, oA _ _ (by omega) (fun z => by unfold sLa at z; omega)]
        exact hS.2.2 i hi
    · rw [t4 _ _ (by omega), l3.2 _ _ (fun z => by unfold sLa at z; omega)]; exact gI_h rfl rfl
    · rw [t4 _ _ y1, oA _ _ y2 y3]
/-- ELSE -/
theorem rf_els {s1 e1 kd1 v1 w1 wt o Lt L : Nat} {W : Nat → Nat} (hE : EN E σ1 τ1) (hT : TKs E.tx E.nb s1 e1 kd1 v1 w1 σ1 τ1) (h25 : τ1.1 468 25 = 0) (hS : SKs τ1 (wt + 1) W) (hw : W wt = 102) (h90 : τ1.1 490 wt = nI Lt) (hM : MKc τ1 E.b K L) (hL : L < 400) (hLt : Lt < L) (hK : K.1 Lt = o) (hN : 200000 < N) : (¬ kd1 = 322 → p_X9_endSum (nI E.b) N τ1 ∧ FLm 1 τ1 (s_X9_endSum (nI E.b) N τ1)) ∧ (kd1 = 322 → p_X6_next N σ1 ∧ rfr sTC σ1 (s_X6_next N σ1) ∧ p_X9_endSum (nI E.b) N τ1 ∧ ∃ s2 e2 kd2 v2 w2, TKs E.tx E.nb s2 e2 kd2 v2 w2 (s_X6_next N σ1) (s_X9_endSum (nI E.b) N τ1) ∧ rfr (sRM E.b) τ1 (s_X9_endSum (nI E.b) N τ1) ∧ e1 ≤ s2 ∧ SKs (s_X9_endSum (nI E.b) N τ1) (wt + 1) (fun i => if i = wt then 103 else W i) ∧ (s_X9_endSum (nI E.b) N τ1).1 468 39 = 0 ∧ (s_X9_endSum (nI E.b) N τ1).1 490 wt = nI L ∧ MKc (s_X9_endSum (nI E.b) N τ1) E.b (seK (seK K L 12 0) Lt o (nI (L + 1))) (L + 1) ∧ (∀ Q j, ¬ (Q = 468 ∧ ((20 ≤ j ∧ j ≤ 24) ∨ j = 39)) → ¬ ((Q = 489 ∨ Q = 490) ∧ j = wt) → ¬ sLa E.b Q j → (s_X9_endSum (nI E.b) N τ1).1 Q j = τ1.1 Q j)) := by
  have tp : f_X9_top τ1 = 102 := top_at (c := 102) hS hw
  have b2 := hE.2.2.2.2.1.2.2
  have n10 : ¬ (1 : Int32) = 0 := by decide
  have z0 : (0 : Int32) ≤ 0 := by decide
  have nn : ∀ c : Int32, ¬ (102 : Int32) = c → ¬ f_X9_top τ1 = c := fun c y z => y (tp.symm.trans z)
  have ew : f_X9_isWord 12 τ1 = if kd1 = 322 then 1 else 0 := rk_word (c := 12) hT h25 (by decide)
  have se : s_X9_endSum (nI E.b) N τ1 = s_X9_goElse (nI E.b) N τ1 := by
    unfold s_X9_endSum
    rw [if_neg (nn _ (by decide)), if_neg (nn _ (by decide)), if_pos tp]
    rfl
  have pe : p_X9_goElse (nI E.b) N τ1 → p_X9_endSum (nI E.b) N τ1 := fun y => ⟨hS.top.1, fun z => absurd z (nn _ (by decide)), fun _ => ⟨fun z => absurd z (nn _ (by decide)), fun _ => ⟨fun _ => y, fun z => absurd tp z⟩⟩⟩
  rw [se]
  refine ⟨fun k1 => ?_, fun k1 => ?_⟩
  · rw [if_neg k1] at ew
    have ff : FLm 1 τ1 (s_X9_fail 1 τ1) := rf_fail (c := 1) h25
    have nz : ¬ (s_X9_fail 1 τ1).1 468 25 ≤ 0 := by
      have : s_X9_fail 1 τ1 = zuI (zuI τ1 468 25 (nI 1)) 468 26 (τ1.1 468 21) := ff
      rw [this, gI_n (by omega), gI_h rfl rfl]
      decide
    refine ⟨pe ?_, ?_⟩
    · unfold p_X9_goElse u_X9_goElse_7
      rw [ew]
      exact ⟨fun y => absurd rfl y, fun _ y => absurd y nz⟩
    · have : s_X9_goElse (nI E.b) N τ1 = s_X9_fail 1 τ1 := by
        unfold s_X9_goElse u_X9_goElse_7
        rw [ew, if_pos rfl, if_neg nz]
      rw [this]
      exact ff
  · rw [if_pos k1] at ew
    have hw1 := hS.2.1
    have cb : (nI E.b).toNatClampNeg = E.b := nI_clamp (by omega)
    have vb : vp_in (nI E.b) 2 := vp_in_nI b2 (by decide)
    have cw : (τ1.1 468 37 - 1).toNatClampNeg = wt := by
      rw [hS.1, nI_s1 (by omega), nI_clamp (by omega)]
      omega
    have vw : vp_in (τ1.1 468 37 - 1) 200 := by
      rw [hS.1, nI_s1 (by omega)]
      exact vp_in_nI (by omega) (by decide)
    have e1' : u_X9_goElse_1 (nI E.b) N τ1 = zuI τ1 489 wt 103 := by
      unfold u_X9_goElse_1
      rw [cw]
    have e2 : u_X9_goElse_2 (nI E.b) N τ1 = zuI (zuI τ1 489 wt 103) 490 wt (nI L) := by
      unfold u_X9_goElse_2
      rw [e1', gI_n (by omega), cw, cb, gI_n (by omega), hM.2]
    have hM2 : MKc (zuI (zuI τ1 489 wt 103) 490 wt (nI L)) E.b (seK K L 12 0) L := (hM.ag seK_ag (Nat.le_refl _)).eq (fun Q j y => by rw [gI_n (by omega), gI_n (by omega)])
    obtain ⟨l1, l2, l3⟩ := rf_lay (x := nI 12) (y := 0) hM2 b2 hL (by rw [seK_o.1]) seK_o.2.symm
    have e3 : u_X9_goElse_3 (nI E.b) N τ1 = s_X9_lay (nI E.b) (nI 12) 0 (zuI (zuI τ1 489 wt 103) 490 wt (nI L)) := by
      unfold u_X9_goElse_3
      rw [e2]
      rfl
    have ei : (800 : Int32) * nI E.b + 2 * τ1.1 490 (τ1.1 468 37 - 1).toNatClampNeg + 1 = nI (800 * E.b + 2 * Lt + 1) := by
      rw [cw, h90, show (800 : Int32) = nI 800 from rfl, show (2 : Int32) = nI 2 from rfl, pk_mul, pk_mul, nI_add, nI_1]
    generalize hτb : s_X9_lay (nI E.b) (nI 12) 0 (zuI (zuI τ1 489 wt 103) 490 wt (nI L)) = τb at *
    have e4 : u_X9_goElse_4 (nI E.b) N τ1 = zuI τb 484 (800 * E.b + 2 * Lt + 1) (nI (L + 1)) := by
      unfold u_X9_goElse_4
      rw [e3, ei, nI_clamp (by omega), cb, l2.2]
    have kt : (seK K L 12 0).1 Lt = o := by
      have : (seK K L 12 0).1 Lt = K.1 Lt := if_neg (by omega)
      rw [this, hK]
    have l2' : MKc (zuI τb 484 (800 * E.b + 2 * Lt + 1) (nI (L + 1))) E.b (seK (seK K L 12 0) Lt o (nI (L + 1))) (L + 1) := mk_put l2 b2 (by omega) (by omega) kt
    generalize hτa : zuI τb 484 (800 * E.b + 2 * Lt + 1) (nI (L + 1)) = τa at *
    have oB : ∀ Q j, ¬ sLa E.b Q j → τa.1 Q j = τb.1 Q j := fun Q j y => by rw [← hτa, gI_n (fun z => y (Or.inr ⟨z.1, by omega, by omega⟩))]
    have oA : ∀ Q j, ¬ ((Q = 489 ∨ Q = 490) ∧ j = wt) → ¬ sLa E.b Q j → τa.1 Q j = τ1.1 Q j := fun Q j y y2 => by rw [oB _ _ y2, l3.2 _ _ y2, gI_n (by omega), gI_n (by omega)]
    have fa : rfr (sRM E.b) τ1 τa := ⟨by rw [← hτa]; exact l3.1, fun Q j y => oA Q j (fun z => y (by unfold sRM; omega)) (fun z => y (Or.inr (Or.inr (Or.inl z))))⟩
    obtain ⟨n1, n2, n3, s2, e2', kd2, v2, w2, t1, t2, t3, t4⟩ := nx_step (N := N) (sg := 0) hE hT fa (oA _ _ (by omega) (fun z => by unfold sLa at z; omega)) hN
    have sg : s_X9_goElse (nI E.b) N τ1 = zuI (s_X9_scan N τa) 468 39 (nI 0) ∧ p_X9_goElse (nI E.b) N τ1 := by
      unfold s_X9_goElse p_X9_goElse
      rw [ew]
      refine ⟨?_, fun _ _ => ⟨vw, vb, by rw [e1', gI_n (by omega)]; exact vw, by rw [e2]; exact l1, by rw [ei]; exact vp_in_nI (by omega) (by decide), by rw [e4]; exact n2⟩, fun y => absurd y n10⟩
      rw [if_neg n10, h25, if_pos z0]
      unfold u_X9_goElse_6 u_X9_goElse_5
      rw [e4]
      rfl
    refine ⟨n1, n3, pe sg.2, s2, e2', kd2, v2, w2, ?_⟩
    rw [sg.1]
    refine ⟨t1, t2, t3, ⟨?_, hw1, fun i hi => ?_⟩, gI_h rfl rfl, ?_, l2'.eq (fun Q j y => t4 _ _ (by omega)), fun Q j y1 y2 y3 => ?_⟩
    · rw [t4 _ _ (by omega), oA _ _ (by omega) (fun z => by unfold sLa at z; omega)]; exact hS.1
    · show (if i = wt then 103 else W i) < 128 ∧ _ = nI (if i = wt then 103 else W i)
      rw [t4 _ _ (by omega)]
      by_cases c : i = wt
      · rw [if_pos c, c, oB _ _ (fun z => by unfold sLa at z; omega), l3.2 _ _ (fun z => by unfold sLa at z; omega), gI_n (by omega), gI_h rfl rfl]
        exact ⟨by decide, rfl⟩
      · rw [if_neg c, oA _ _ (by omega) (fun z => by unfold sLa at z; omega)]
        exact hS.2.2 i hi
    · rw [t4 _ _ (by omega), oB _ _ (fun z => by unfold sLa at z; omega), l3.2 _ _ (fun z => by unfold sLa at z; omega)]; exact gI_h rfl rfl
    · rw [t4 _ _ y1, oA _ _ y2 y3]
/-- the end of ELSE -/
theorem rf_fin {wt d Lj L : Nat} {W : Nat → Nat} (b2 : E.b < 2) (hS : SKs τ1 (wt + 1) W) (hw : W wt = 103) (h90 : τ1.1 490 wt = nI Lj) (hM : MKc τ1 E.b K L) (hL : L ≤ 400) (hLj : Lj < L) (hK : K.1 Lj = 12) (h38 : τ1.1 468 38 = nI (d + 1)) (d9 : d ≤ 100) : p_X9_endSum (nI E.b) N τ1 ∧ SKs (s_X9_endSum (nI E.b) N τ1) wt W ∧ MKc (s_X9_endSum (nI E.b) N τ1) E.b (seK K Lj 12 (nI L)) L ∧ (s_X9_endSum (nI E.b) N τ1).1 468 38 = nI d ∧ rfr (fun Q j => sLa E.b Q j ∨ (Q = 468 ∧ (j = 37 ∨ j = 38))) τ1 (s_X9_endSum (nI E.b) N τ1) := by
  have tp : f_X9_top τ1 = 103 := top_at (c := 103) hS hw
  have nn : ∀ c : Int32, ¬ (103 : Int32) = c → ¬ f_X9_top τ1 = c := fun c y z => y (tp.symm.trans z)
  have hw1 := hS.2.1
  have cb : (nI E.b).toNatClampNeg = E.b := nI_clamp (by omega)
  have vb : vp_in (nI E.b) 2 := vp_in_nI b2 (by decide)
  have cw : (τ1.1 468 37 - 1).toNatClampNeg = wt := by
    rw [hS.1, nI_s1 (by omega), nI_clamp (by omega)]
    omega
  have vw : vp_in (τ1.1 468 37 - 1) 200 := by
    rw [hS.1, nI_s1 (by omega)]
    exact vp_in_nI (by omega) (by decide)
  have ei : (800 : Int32) * nI E.b + 2 * τ1.1 490 (τ1.1 468 37 - 1).toNatClampNeg + 1 = nI (800 * E.b + 2 * Lj + 1) := by
    rw [cw, h90, show (800 : Int32) = nI 800 from rfl, show (2 : Int32) = nI 2 from rfl, pk_mul, pk_mul, nI_add, nI_1]
  have e4 : u_X9_endSum_4 (nI E.b) N τ1 = zuI τ1 484 (800 * E.b + 2 * Lj + 1) (nI L) := by
    unfold u_X9_endSum_4
    rw [ei, nI_clamp (by omega), cb, hM.2]
  have e6 : u_X9_endSum_6 (nI E.b) N τ1 = zuI (zuI (zuI τ1 484 (800 * E.b + 2 * Lj + 1) (nI L)) 468 37 (nI wt)) 468 38 (nI d) := by
    unfold u_X9_endSum_6 u_X9_endSum_5
    rw [e4, gI_n (by omega), hS.1, nI_s1 (by omega), gI_n (by omega), gI_n (by omega), h38, nI_s1 (by omega)]
    rfl
  have se : s_X9_endSum (nI E.b) N τ1 = zuI (zuI (zuI τ1 484 (800 * E.b + 2 * Lj + 1) (nI L)) 468 37 (nI wt)) 468 38 (nI d) := by
    unfold s_X9_endSum
    rw [if_neg (nn _ (by decide)), if_neg (nn _ (by decide)), if_neg (nn _ (by decide)), if_pos tp, e6]
  refine ⟨⟨hS.top.1, fun z => absurd z (nn _ (by decide)), fun _ => ⟨fun z => absurd z (nn _ (by decide)), fun _ => ⟨fun z => absurd z (nn _ (by decide)), fun _ => ⟨fun _ => ⟨vw, vb, by rw [ei]; exact vp_in_nI (by omega) (by decide)⟩, fun z => absurd tp z⟩⟩⟩⟩, ?_⟩
  rw [se]
  refine ⟨⟨(gI_n (by omega)).trans (gI_h rfl rfl), by omega, fun i hi => ⟨(hS.2.2 i (by omega)).1, ?_⟩⟩, (mk_put hM b2 hLj hL hK).eq (fun Q j y => by rw [gI_n (by omega), gI_n (by omega)]), gI_h rfl rfl, ((rfr.rf.uI (Or.inl (Or.inr ⟨rfl, by omega, by omega⟩))).uI (Or.inr ⟨rfl, Or.inl rfl⟩)).uI (Or.inr ⟨rfl, Or.inr rfl⟩)⟩
  rw [gI_n (by omega), gI_n (by omega), gI_n (by omega)]
  exact (hS.2.2 i (by omega)).2
end IS
