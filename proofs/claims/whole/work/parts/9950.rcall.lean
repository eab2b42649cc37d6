/-! the reference's call: its formulas, its end -/
section IS
variable {N : Nat} {E : EV} {σ σ1 σ2 τ τ1 τ2 : zS} {K K1 K2 : aK} {H H1 : Nat → Nat}
theorem rf_ec {x f a i sg : Nat} {W : Nat → Nat} (b2 : E.b < 2) (hS : SKs τ1 (x + 1) W) (h90 : τ1.1 490 x = nI f) (h91 : τ1.1 491 x = nI i) (f6 : f < 6) (ha : τ1.1 481 (6 * E.b + f) = nI a) (a4 : a ≤ 4) (i4 : i ≤ 4) (h25 : τ1.1 468 25 = 0) (h39 : τ1.1 468 39 = nI sg) : (((sg = 2 ∧ ¬ i + 1 = a) ∨ (sg = 0 ∧ ¬ i = a)) → p_X9_endCall (nI E.b) N τ1 ∧ FLm 5 τ1 (s_X9_endCall (nI E.b) N τ1)) ∧ (((sg = 2 ∧ i + 1 = a) ∨ (sg = 0 ∧ i = 0 ∧ a = 0)) → p_X9_lay (nI E.b) 8 (nI f) τ1 → p_X9_close (nI E.b) N (s_X9_lay (nI E.b) 8 (nI f) τ1) → p_X9_endCall (nI E.b) N τ1 ∧ s_X9_endCall (nI E.b) N τ1 = s_X9_close (nI E.b) N (s_X9_lay (nI E.b) 8 (nI f) τ1)) := by
  have hw1 := hS.2.1
  have z0 : (0 : Int32) ≤ 0 := by decide
  have cw : (τ1.1 468 37 - 1).toNatClampNeg = x := by
    rw [hS.1, nI_s1 (by omega), nI_clamp (by omega)]
    omega
  have vw : vp_in (τ1.1 468 37 - 1) 200 := by
    rw [hS.1, nI_s1 (by omega)]
    exact vp_in_nI (by omega) (by decide)
  have e6 : (6 : Int32) * nI E.b + nI f = nI (6 * E.b + f) := by rw [show (6 : Int32) = nI 6 from rfl, pk_mul, nI_add]
  have v6 : vp_in (nI (6 * E.b + f)) 12 := vp_in_nI (by omega) (by decide)
  have c6 : (nI (6 * E.b + f)).toNatClampNeg = 6 * E.b + f := nI_clamp (by omega)
  have ff : FLm 5 τ1 (s_X9_fail 5 τ1) := rf_fail (c := 5) h25
  have nz : ¬ (s_X9_fail 5 τ1).1 468 25 ≤ 0 := by
    have : s_X9_fail 5 τ1 = zuI (zuI τ1 468 25 (nI 5)) 468 26 (τ1.1 468 21) := ff
    rw [this, gI_n (by omega), gI_h rfl rfl]
    decide
  have i0 : nI i + 0 = nI i := by
    rw [show (0 : Int32) = nI 0 from rfl, nI_add]
    rfl
  unfold p_X9_endCall s_X9_endCall u_X9_endCall_1 u_X9_endCall_6 u_X9_endCall_11 u_X9_endCall_16
  rw [h39, cw, h90, h91, e6, c6, ha, i0, nI_1, h25]
  refine ⟨fun c => ?_, fun c hl hc => ?_⟩
  · rcases c with ⟨rfl, c⟩ | ⟨rfl, c⟩
    · have k2 : nI 2 = 2 := rfl
      have ne : ¬ nI (i + 1) = nI a := fun y => c ((nI_eq (by omega) (by omega)).mp y)
      refine ⟨⟨vw, fun y => absurd k2 y, fun _ => ⟨v6, fun _ y => absurd y nz, fun y => absurd y ne⟩⟩, ?_⟩
      rw [if_pos k2, if_neg ne, if_neg nz]
      exact ff
    · have k2 : ¬ nI 0 = 2 := by decide
      have ne : ¬ nI i = nI a := fun y => c ((nI_eq (by omega) (by omega)).mp y)
      refine ⟨⟨vw, fun _ => ⟨v6, fun _ y => absurd y nz, fun y => absurd y ne⟩, fun y => absurd y k2⟩, ?_⟩
      rw [if_neg k2, if_neg ne, if_neg nz]
      exact ff
  · rcases c with ⟨rfl, rfl⟩ | ⟨rfl, rfl, rfl⟩
    · have k2 : nI 2 = 2 := rfl
      have e14 : u_X9_endCall_14 (nI E.b) N τ1 = s_X9_lay (nI E.b) 8 (nI f) τ1 := by
        unfold u_X9_endCall_14
        rw [cw, h90]
      refine ⟨⟨vw, fun y => absurd k2 y, fun _ => ⟨v6, fun y => absurd rfl y, fun _ => ⟨fun _ _ => ⟨hl, by rw [e14]; exact hc⟩, fun y => absurd k2 y⟩⟩⟩, ?_⟩
      rw [if_pos k2, if_pos rfl, if_pos k2, if_pos z0]
      unfold u_X9_endCall_15
      rw [e14]
    · have k2 : ¬ nI 0 = 2 := by decide
      have k0 : nI 0 = 0 := rfl
      have e9 : u_X9_endCall_9 (nI E.b) N τ1 = s_X9_lay (nI E.b) 8 (nI f) τ1 := by
        unfold u_X9_endCall_9
        rw [cw, h90]
      refine ⟨⟨vw, fun _ => ⟨v6, fun y => absurd rfl y, fun _ => ⟨fun y => absurd y k2, fun _ => ⟨fun y => absurd k0 y, fun _ _ => ⟨hl, by rw [e9]; exact hc⟩⟩⟩⟩, fun y => absurd y k2⟩, ?_⟩
      rw [if_neg k2, if_pos rfl, if_neg k2, if_pos k0, if_pos z0]
      unfold u_X9_endCall_10
      rw [e9]
/-- a ) where a formula must stand -/
theorem rf_rp {s1 e1 kd1 v1 w1 x : Nat} {W : Nat → Nat} (hE : EN E σ1 τ1) (hT : TKs E.tx E.nb s1 e1 kd1 v1 w1 σ1 τ1) (h25 : τ1.1 468 25 = 0) (h39 : τ1.1 468 39 = 0) (hS : SKs τ1 (x + 1) W) (hw : W x = 105) (kk : kd1 = 41) (hp : p_X9_endCall (nI E.b) N τ1) : Rn N E.b 1 τ1 (s_X9_endCall (nI E.b) N τ1) := by
  have tp : f_X9_top τ1 = 105 := top_at (c := 105) hS hw
  have n10 : ¬ (1 : Int32) = 0 := by decide
  obtain ⟨a1, a2⟩ := rk_at (c := 40) hT hE.2.1 h25 (by decide)
  obtain ⟨b1, b2⟩ := rk_at (c := 45) hT hE.2.1 h25 (by decide)
  obtain ⟨c1, c2⟩ := rk_at (c := 41) hT hE.2.1 h25 (by decide)
  have c2 : f_X9_isAt 41 τ1 = if kd1 = 41 then 1 else 0 := c2
  rw [if_pos kk] at c2
  have er : s_X9_readUnit (nI E.b) N τ1 = s_X9_endCall (nI E.b) N τ1 ∧ p_X9_readUnit (nI E.b) N τ1 := by
    unfold s_X9_readUnit p_X9_readUnit
    rw [h39, tp, c2]
    refine ⟨?_, a1, b1, fun y => absurd rfl y, fun _ => ⟨hS.top.1, fun y => absurd rfl y, fun _ => ⟨c1, fun y => absurd y n10, fun _ => hp⟩⟩⟩
    rw [if_pos rfl, if_pos rfl, if_neg n10]
    rfl
  have rn := rn_unit (N := N) (b := E.b) (sg := 0) h25 h39 (by decide) (fun _ => by
    have e : f_X9_isWord (nI 10) τ1 = if kd1 = 310 + 10 then 1 else 0 := rk_word hT h25 (by decide)
    have e : f_X9_isWord 10 τ1 = if kd1 = 310 + 10 then 1 else 0 := e
    rw [e, if_neg (by omega)]) er.2
  rw [er.1] at rn
  exact rn
/-- behind a formula of a call -/
theorem rf_gic {s1 e1 kd1 v1 w1 x f a i : Nat} {W : Nat → Nat} (hE : EN E σ1 τ1) (hT : TKs E.tx E.nb s1 e1 kd1 v1 w1 σ1 τ1) (h25 : τ1.1 468 25 = 0) (h39 : τ1.1 468 39 = 2) (hS : SKs τ1 (x + 1) W) (hw : W x = 105) (h90 : τ1.1 490 x = nI f) (h91 : τ1.1 491 x = nI i) (f6 : f < 6) (ha : τ1.1 481 (6 * E.b + f) = nI a) (a4 : a ≤ 4) (i4 : i < a) (hN : 200000 < N) : (kd1 = 41 → (p_X9_endCall (nI E.b) N τ1 → p_X9_endSum (nI E.b) N τ1) ∧ s_X9_endSum (nI E.b) N τ1 = s_X9_endCall (nI E.b) N τ1) ∧ (¬ kd1 = 41 → ¬ kd1 = 44 → p_X9_endSum (nI E.b) N τ1 ∧ FLm 1 τ1 (s_X9_endSum (nI E.b) N τ1)) ∧ (kd1 = 44 → i + 1 = a → p_X9_endSum (nI E.b) N τ1 ∧ FLm 5 (zuI τ1 491 x (nI (i + 1))) (s_X9_endSum (nI E.b) N τ1)) ∧ (kd1 = 44 → i + 1 < a → p_X6_next N σ1 ∧ rfr sTC σ1 (s_X6_next N σ1) ∧ p_X9_endSum (nI E.b) N τ1 ∧ ∃ s2 e2 kd2 v2 w2, TKs E.tx E.nb s2 e2 kd2 v2 w2 (s_X6_next N σ1) (s_X9_endSum (nI E.b) N τ1) ∧ rfr (sRM E.b) τ1 (s_X9_endSum (nI E.b) N τ1) ∧ e1 ≤ s2 ∧ (s_X9_endSum (nI E.b) N τ1).1 468 39 = 0 ∧ (s_X9_endSum (nI E.b) N τ1).1 491 x = nI (i + 1) ∧ (∀ Q j, ¬ (Q = 468 ∧ ((20 ≤ j ∧ j ≤ 24) ∨ j = 39)) → ¬ (Q = 491 ∧ j = x) → (s_X9_endSum (nI E.b) N τ1).1 Q j = τ1.1 Q j)) := by
  have tp : f_X9_top τ1 = 105 := top_at (c := 105) hS hw
  have b2 := hE.2.2.2.2.1.2.2
  have n10 : ¬ (1 : Int32) = 0 := by decide
  have z0 : (0 : Int32) ≤ 0 := by decide
  have nn : ∀ c : Int32, ¬ (105 : Int32) = c → ¬ f_X9_top τ1 = c := fun c y z => y (tp.symm.trans z)
  obtain ⟨a1, a2⟩ := rk_at (c := 41) hT hE.2.1 h25 (by decide)
  obtain ⟨b1, b3⟩ := rk_at (c := 44) hT hE.2.1 h25 (by decide)
  have a2 : f_X9_isAt 41 τ1 = if kd1 = 41 then 1 else 0 := a2
  have b3 : f_X9_isAt 44 τ1 = if kd1 = 44 then 1 else 0 := b3
  have se : s_X9_endSum (nI E.b) N τ1 = s_X9_goInCall (nI E.b) N τ1 := by
    unfold s_X9_endSum
    rw [if_neg (nn _ (by decide)), if_neg (nn _ (by decide)), if_neg (nn _ (by decide)), if_neg (nn _ (by decide)), if_neg (nn _ (by decide)), if_pos tp]
    rfl
  have pe : p_X9_goInCall (nI E.b) N τ1 → p_X9_endSum (nI E.b) N τ1 := fun y => ⟨hS.top.1, fun z => absurd z (nn _ (by decide)), fun _ => ⟨fun z => absurd z (nn _ (by decide)), fun _ => ⟨fun z => absurd z (nn _ (by decide)), fun _ => ⟨fun z => absurd z (nn _ (by decide)), fun _ => ⟨fun z => absurd z (nn _ (by decide)), fun _ _ => y⟩⟩⟩⟩⟩
  have hw1 := hS.2.1
  have cw : (τ1.1 468 37 - 1).toNatClampNeg = x := by
    rw [hS.1, nI_s1 (by omega), nI_clamp (by omega)]
    omega
  have vw : vp_in (τ1.1 468 37 - 1) 200 := by
    rw [hS.1, nI_s1 (by omega)]
    exact vp_in_nI (by omega) (by decide)
  have e6 : (6 : Int32) * nI E.b + nI f = nI (6 * E.b + f) := by rw [show (6 : Int32) = nI 6 from rfl, pk_mul, nI_add]
  have v6 : vp_in (nI (6 * E.b + f)) 12 := vp_in_nI (by omega) (by decide)
  have c6 : (nI (6 * E.b + f)).toNatClampNeg = 6 * E.b + f := nI_clamp (by omega)
  have e2 : u_X9_goInCall_2 (nI E.b) N τ1 = zuI τ1 491 x (nI (i + 1)) := by
    unfold u_X9_goInCall_2
    rw [cw, h91, nI_1]
  rw [se]
  refine ⟨fun k => ⟨fun y => pe ?_, ?_⟩, fun k1 k2 => ⟨pe ?_, ?_⟩, fun k ci => ?_, fun k ci => ?_⟩
  · rw [if_pos k] at a2
    unfold p_X9_goInCall
    rw [a2]
    exact ⟨a1, fun z => absurd z n10, fun _ => y⟩
  · rw [if_pos k] at a2
    unfold s_X9_goInCall
    rw [a2, if_neg n10]
    rfl
  · rw [if_neg k1] at a2
    rw [if_neg k2] at b3
    unfold p_X9_goInCall
    rw [a2, b3]
    exact ⟨a1, fun _ => ⟨b1, fun z => absurd rfl z⟩, fun z => absurd rfl z⟩
  · rw [if_neg k1] at a2
    rw [if_neg k2] at b3
    have : s_X9_goInCall (nI E.b) N τ1 = s_X9_fail 1 τ1 := by
      unfold s_X9_goInCall
      rw [a2, if_pos rfl, b3, if_pos rfl]
      rfl
    rw [this]
    exact rf_fail (c := 1) h25
  · rw [if_neg (by omega)] at a2
    rw [if_pos k] at b3
    have f25 : (zuI τ1 491 x (nI (i + 1))).1 468 25 = 0 := (gI_n (by omega)).trans h25
    have ff : FLm 5 (zuI τ1 491 x (nI (i + 1))) (s_X9_fail 5 (zuI τ1 491 x (nI (i + 1)))) := rf_fail (c := 5) f25
    have nz : ¬ (s_X9_fail 5 (zuI τ1 491 x (nI (i + 1)))).1 468 25 ≤ 0 := by
      have : s_X9_fail 5 (zuI τ1 491 x (nI (i + 1))) = _ := ff
      rw [this, gI_n (by omega), gI_h rfl rfl]
      decide
    have nl : ¬ nI (i + 1) < nI a := nI_nlt (by omega) (by omega)
    have g0 : s_X9_goInCall (nI E.b) N τ1 = s_X9_fail 5 (zuI τ1 491 x (nI (i + 1))) ∧ p_X9_goInCall (nI E.b) N τ1 := by
      unfold s_X9_goInCall p_X9_goInCall u_X9_goInCall_5
      rw [a2, b3, e2, gI_n (show ¬ (468 = 491 ∧ 37 = x) by omega), cw, gI_h rfl rfl, gI_n (show ¬ (490 = 491 ∧ x = x) by omega), h90, e6, c6, gI_n (show ¬ (481 = 491 ∧ 6 * E.b + f = x) by omega), ha]
      refine ⟨?_, a1, fun _ => ⟨b1, fun _ => ⟨vw, vw, v6, fun y => absurd y nl, fun _ y => absurd y nz⟩⟩, fun z => absurd rfl z⟩
      rw [if_pos rfl, if_neg n10, if_neg nl, if_neg nz]
    refine ⟨pe g0.2, ?_⟩
    rw [g0.1]
    exact ff
  · rw [if_neg (by omega)] at a2
    rw [if_pos k] at b3
    have lt : nI (i + 1) < nI a := nI_lt (by omega) (by omega)
    have oA : ∀ Q j, ¬ (Q = 491 ∧ j = x) → (zuI τ1 491 x (nI (i + 1))).1 Q j = τ1.1 Q j := fun Q j y => gI_n y
    have fa : rfr (sRM E.b) τ1 (zuI τ1 491 x (nI (i + 1))) := rfr.rf.uI (by unfold sRM; omega)
    obtain ⟨n1, n2, n3, s2, e2', kd2, v2, w2, t1, t2, t3, t4⟩ := nx_step (N := N) (sg := 0) hE hT fa (oA _ _ (by omega)) hN
    have g0 : s_X9_goInCall (nI E.b) N τ1 = zuI (s_X9_scan N (zuI τ1 491 x (nI (i + 1)))) 468 39 (nI 0) ∧ p_X9_goInCall (nI E.b) N τ1 := by
      unfold s_X9_goInCall p_X9_goInCall u_X9_goInCall_4 u_X9_goInCall_3
      rw [a2, b3, e2, gI_n (show ¬ (468 = 491 ∧ 37 = x) by omega), cw, gI_h rfl rfl, gI_n (show ¬ (490 = 491 ∧ x = x) by omega), h90, e6, c6, gI_n (show ¬ (481 = 491 ∧ 6 * E.b + f = x) by omega), ha, gI_n (show ¬ (468 = 491 ∧ 25 = x) by omega), h25]
      refine ⟨?_, a1, fun _ => ⟨b1, fun _ => ⟨vw, vw, v6, fun _ _ => n2, fun y => absurd lt y⟩⟩, fun z => absurd rfl z⟩
      rw [if_pos rfl, if_neg n10, if_pos lt, if_pos z0]
      rfl
    refine ⟨n1, n3, pe g0.2, s2, e2', kd2, v2, w2, ?_⟩
    rw [g0.1]
    refine ⟨t1, t2, t3, gI_h rfl rfl, ?_, fun Q j y1 y2 => ?_⟩
    · rw [t4 _ _ (by omega)]; exact gI_h rfl rfl
    · rw [t4 _ _ y1, oA _ _ y2]
end IS
