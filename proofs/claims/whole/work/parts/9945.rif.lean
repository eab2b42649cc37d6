/-! the reference's IF: its steps -/
section IS
variable {N : Nat} {E : EV} {σ σ1 σ2 τ τ1 τ2 : zS} {K K1 K2 : aK} {H H1 : Nat → Nat}
theorem mk_put {b L p o : Nat} {x : Int32} (h : MKc τ b K L) (hb : b < 2) (hp : p < L) (hL : L ≤ 400) (ho : K.1 p = o) : MKc (zuI τ 484 (800 * b + 2 * p + 1) x) b (seK K p o x) L := by
  refine ⟨fun i hi => ?_, (gI_n (by omega)).trans h.2⟩
  by_cases c : i = p
  · subst c
    refine ⟨?_, ?_⟩
    · rw [gI_n (by omega), (h.1 i hi).1, seK_o.1, ho]
    · rw [gI_h rfl rfl, seK_o.2]
  · have e1 : (seK K p o x).1 i = K.1 i := if_neg c
    have e2 : (seK K p o x).2.1 i = K.2.1 i := if_neg c
    rw [e1, e2, gI_n (by omega), gI_n (by omega)]
    exact h.1 i hi
theorem ck_put {q L p o : Nat} {x : Int32} (h : CKc σ q K L) (ho : K.1 p = o) : CKc (zuI σ (q + 6) p x) q (seK K p o x) L := by
  refine ⟨fun i hi => ?_, (gI_n (by omega)).trans h.2⟩
  by_cases c : i = p
  · subst c
    refine ⟨?_, ?_⟩
    · rw [gI_n (by omega), (h.1 i hi).1, seK_o.1, ho]
    · rw [gI_h rfl rfl, seK_o.2]
  · have e1 : (seK K p o x).1 i = K.1 i := if_neg c
    have e2 : (seK K p o x).2.1 i = K.2.1 i := if_neg c
    rw [e1, e2, gI_n (by omega), gI_n (by omega)]
    exact h.1 i hi
/-- the next token, and the stage set -/
theorem nx_step {s1 e1 kd1 v1 w1 sg : Nat} {τa : zS} (hE : EN E σ1 τ1) (hT : TKs E.tx E.nb s1 e1 kd1 v1 w1 σ1 τ1) (fa : rfr (sRM E.b) τ1 τa) (h20 : τa.1 468 20 = τ1.1 468 20) (hN : 200000 < N) : p_X6_next N σ1 ∧ p_X9_scan N τa ∧ rfr sTC σ1 (s_X6_next N σ1) ∧ ∃ s2 e2 kd2 v2 w2, TKs E.tx E.nb s2 e2 kd2 v2 w2 (s_X6_next N σ1) (zuI (s_X9_scan N τa) 468 39 (nI sg)) ∧ rfr (sRM E.b) τ1 (zuI (s_X9_scan N τa) 468 39 (nI sg)) ∧ e1 ≤ s2 ∧ (∀ Q j, ¬ (Q = 468 ∧ ((20 ≤ j ∧ j ≤ 24) ∨ j = 39)) → (zuI (s_X9_scan N τa) 468 39 (nI sg)).1 Q j = τa.1 Q j) := by
  have hTM : TM E.nb E.tx τa := (hE.fr rfr.rf fa).2.1
  obtain ⟨n1, n2, -, s2, e2, kd2, v2, w2, t1, t2, t3, t4, -⟩ := pr_next (N := N) (p := e1) hE.1 hTM hT.2.2.2.2.2.2.2.1 (h20.trans hT.2.2.2.2.2.2.2.2.2.2.1) hT.2.1 (by omega)
  refine ⟨n1, n2, t2, s2, e2, kd2, v2, w2, t1.eq (fun _ _ _ => rfl) (fun j _ _ => gI_n (by omega)), (fa.tr (rfr.tm t3)).uI (Or.inl ⟨rfl, Or.inr ⟨by omega, by omega⟩⟩), t4, fun Q j y => ?_⟩
  rw [gI_n (by omega), t3.2 _ _ (fun z => by unfold sTM at z; omega)]
/-- IF is opened -/
theorem rf_ifo {s e kd v w u Lc wt d : Nat} {W : Nat → Nat} (hh : PS E s e kd v w u K Lc Lc wt W d 0 σ τ) (hN : 200000 < N) (hp : p_X9_isTooMany (nI E.b) τ) (d6 : d ≤ 6) (hw : wt < 90) (kk : kd = 320) : ((5 < d ∨ ¬ f_X9_isTooMany (nI E.b) τ = 0) → ∃ τf, Rn N E.b 1 τ τf ∧ FLm 5 τ τf) ∧ (d ≤ 5 → f_X9_isTooMany (nI E.b) τ = 0 → p_X6_next N σ ∧ ∃ s2 e2 kd2 v2 w2 τ3, Rn N E.b 1 τ τ3 ∧ PS E s2 e2 kd2 v2 w2 u K Lc Lc (wt + 1) (fun i => if i = wt then 100 else W i) (d + 1) 1 (s_X6_next N σ) τ3 ∧ rfr (sRC E.q) σ (s_X6_next N σ) ∧ rfr (sRM E.b) τ τ3 ∧ e ≤ s2 ∧ (∀ i, i < wt → τ3.1 490 i = τ.1 490 i ∧ τ3.1 491 i = τ.1 491 i) ∧ (s_X6_next N σ).1 2 6 = σ.1 2 6) := by
  obtain ⟨hE, hT, ⟨hu1, hu2, u80⟩, hC, hM, hS, h38, h39, h25⟩ := hh
  have q3 := hE.2.2.2.2.1.2.1
  have z0 : (0 : Int32) ≤ 0 := by decide
  have hwd : f_X9_isWord 10 τ = 1 := by
    have e : f_X9_isWord (nI 10) τ = if kd = 310 + 10 then 1 else 0 := rk_word hT h25 (by decide)
    have e : f_X9_isWord 10 τ = if kd = 310 + 10 then 1 else 0 := e
    rw [e, if_pos (by omega)]
  have a5 : (5 : Int32) < τ.1 468 38 ↔ 5 < d := by
    rw [h38]
    constructor
    · intro y
      apply Classical.byContradiction
      intro w
      exact nI_nlt (a := 5) (b := d) (by omega) (by decide) y
    · intro y
      exact nI_lt (a := 5) y (by omega)
  refine ⟨fun c => ?_, fun d5 htm => ?_⟩
  · obtain ⟨f1, f2, f3⟩ := fl_at (b := E.b) (c := 5) h25 hp
    have nz : ¬ (s_X9_fail 5 τ).1 468 25 ≤ 0 := by
      have : (s_X9_fail 5 τ).1 468 25 = nI 5 := f1
      rw [this]
      decide
    have eo : s_X9_openIf (nI E.b) N τ = s_X9_fail (nI 5) τ ∧ p_X9_openIf (nI E.b) N τ := by
      unfold s_X9_openIf p_X9_openIf u_X9_openIf_1 u_X9_openIf_10
      refine ⟨?_, fun _ y => absurd y nz, fun _ => ⟨hp, fun y => ?_, fun _ y => absurd y nz⟩⟩
      · by_cases y : (5 : Int32) < τ.1 468 38
        · rw [if_pos y, if_neg nz]
          rfl
        · rw [if_neg y, if_neg (c.resolve_left (fun w => y (a5.mpr w))), if_neg nz]
          rfl
      · exact absurd y (c.resolve_left (fun w => by rename_i y0; exact y0 (a5.mpr w)))
    have rn := rn_if (N := N) (b := E.b) h25 h39 hwd eo.2
    rw [eo.1] at rn
    exact ⟨_, rn, f3⟩
  · obtain ⟨p1, p2, p3⟩ := rf_push (x := 0) (y := 0) (o := 100) hS (by omega) (by omega)
    have n5 : ¬ (5 : Int32) < τ.1 468 38 := fun y => absurd (a5.mp y) (by omega)
    have oP : ∀ Q j, ¬ ((489 ≤ Q ∧ Q ≤ 491 ∧ j = wt) ∨ (Q = 468 ∧ j = 37)) → (s_X9_push 100 0 0 τ).1 Q j = τ.1 Q j := fun Q j y => by
      have : s_X9_push 100 0 0 τ = s_X9_push (nI 100) 0 0 τ := rfl
      rw [this, p2, gI_n (by omega), gI_n (by omega), gI_n (by omega), gI_n (by omega)]
    have e7 : u_X9_openIf_7 (nI E.b) N τ = zuI (s_X9_push 100 0 0 τ) 468 38 (nI (d + 1)) := by
      unfold u_X9_openIf_7 u_X9_openIf_6
      rw [oP _ _ (by omega), h38, nI_1]
    generalize hτa : zuI (s_X9_push 100 0 0 τ) 468 38 (nI (d + 1)) = τa at e7
    have oA : ∀ Q j, ¬ ((489 ≤ Q ∧ Q ≤ 491 ∧ j = wt) ∨ (Q = 468 ∧ (j = 37 ∨ j = 38))) → τa.1 Q j = τ.1 Q j := fun Q j y => by rw [← hτa, gI_n (by omega), oP _ _ (by omega)]
    have fa : rfr (sRM E.b) τ τa := ⟨by
      rw [← hτa]
      show (s_X9_push (nI 100) 0 0 τ).2 = τ.2
      rw [p2]
      rfl, fun Q j y => oA Q j (fun z => y (by unfold sRM; omega))⟩
    obtain ⟨n1, n2, n3, s2, e2, kd2, v2, w2, t1, t2, t3, t4⟩ := nx_step (N := N) (sg := 1) hE hT fa (oA _ _ (by omega)) hN
    have eo : s_X9_openIf (nI E.b) N τ = zuI (s_X9_scan N τa) 468 39 (nI 1) ∧ p_X9_openIf (nI E.b) N τ := by
      unfold s_X9_openIf p_X9_openIf
      refine ⟨?_, fun y => absurd y n5, fun _ => ⟨hp, fun _ _ => ⟨p1, by rw [e7]; exact n2⟩, fun y => absurd htm y⟩⟩
      rw [if_neg n5, if_pos htm, h25, if_pos z0]
      unfold u_X9_openIf_9 u_X9_openIf_8
      rw [e7]
      rfl
    have rn := rn_if (N := N) (b := E.b) h25 h39 hwd eo.2
    rw [eo.1] at rn
    have cN : ∀ Q j, ¬ Q = 3 → (s_X6_next N σ).1 Q j = σ.1 Q j := fun Q j y => n3.2 _ _ (fun z => y z.1)
    refine ⟨n1, s2, e2, kd2, v2, w2, _, rn, ⟨hE.fr (rfr.tc n3) t2, t1, ⟨(cN _ _ (by omega)).trans hu1, ?_, u80⟩, hC.eq (fun Q j y => cN _ _ (by omega)), hM.eq (fun Q j y => by rw [t4 _ _ (by omega), oA _ _ (by omega)]), p3.eq ?_ (fun i _ => ?_), ?_, gI_h rfl rfl, ?_⟩, rfr.tc n3, t2, t3, fun i hi => ⟨?_, ?_⟩, cN _ _ (by omega)⟩
    · rw [t4 _ _ (by omega), oA _ _ (by omega)]; exact hu2
    · rw [t4 _ _ (by omega), ← hτa, gI_n (by omega)]; rfl
    · rw [t4 _ _ (by omega), ← hτa, gI_n (by omega)]; rfl
    · rw [t4 _ _ (by omega), ← hτa]; exact gI_h rfl rfl
    · rw [t4 _ _ (by omega), oA _ _ (by omega)]; exact h25
    · rw [t4 _ _ (by omega), oA _ _ (by omega)]
    · rw [t4 _ _ (by omega), oA _ _ (by omega)]
/-- against what -/
theorem rf_agn {s1 e1 kd1 v1 w1 wt o : Nat} {W : Nat → Nat} (hE : EN E σ1 τ1) (hT : TKs E.tx E.nb s1 e1 kd1 v1 w1 σ1 τ1) (h25 : τ1.1 468 25 = 0) (hS : SKs τ1 (wt + 1) W) (hw : W wt = 100) (hN : 200000 < N) : ((¬ kd1 = 60 ∧ ¬ kd1 = 62 ∧ ¬ kd1 = 61) → p_X9_endSum (nI E.b) N τ1 ∧ FLm 1 τ1 (s_X9_endSum (nI E.b) N τ1)) ∧ (((kd1 = 60 ∧ o = 9) ∨ (kd1 = 62 ∧ o = 10) ∨ (kd1 = 61 ∧ o = 11)) → p_X6_next N σ1 ∧ rfr sTC σ1 (s_X6_next N σ1) ∧ p_X9_endSum (nI E.b) N τ1 ∧ ∃ s2 e2 kd2 v2 w2, TKs E.tx E.nb s2 e2 kd2 v2 w2 (s_X6_next N σ1) (s_X9_endSum (nI E.b) N τ1) ∧ rfr (sRM E.b) τ1 (s_X9_endSum (nI E.b) N τ1) ∧ e1 ≤ s2 ∧ SKs (s_X9_endSum (nI E.b) N τ1) (wt + 1) (fun i => if i = wt then 101 else W i) ∧ (s_X9_endSum (nI E.b) N τ1).1 468 39 = 1 ∧ (s_X9_endSum (nI E.b) N τ1).1 491 wt = nI o ∧ (∀ Q j, ¬ (Q = 468 ∧ ((20 ≤ j ∧ j ≤ 24) ∨ j = 39)) → ¬ ((Q = 489 ∨ Q = 491) ∧ j = wt) → (s_X9_endSum (nI E.b) N τ1).1 Q j = τ1.1 Q j)) := by
  have tp : f_X9_top τ1 = 100 := top_at (c := 100) hS hw
  have n10 : ¬ (1 : Int32) = 0 := by decide
  have z0 : (0 : Int32) ≤ 0 := by decide
  have nn : ∀ c : Int32, ¬ (100 : Int32) = c → ¬ f_X9_top τ1 = c := fun c y z => y (tp.symm.trans z)
  obtain ⟨a1, a2⟩ := rk_at (c := 60) hT hE.2.1 h25 (by decide)
  obtain ⟨b1, b2⟩ := rk_at (c := 62) hT hE.2.1 h25 (by decide)
  obtain ⟨c1, c2⟩ := rk_at (c := 61) hT hE.2.1 h25 (by decide)
  have a2 : f_X9_isAt 60 τ1 = if kd1 = 60 then 1 else 0 := a2
  have b2 : f_X9_isAt 62 τ1 = if kd1 = 62 then 1 else 0 := b2
  have c2 : f_X9_isAt 61 τ1 = if kd1 = 61 then 1 else 0 := c2
  have a1 : p_X9_isAt 60 τ1 := a1
  have b1 : p_X9_isAt 62 τ1 := b1
  have c1 : p_X9_isAt 61 τ1 := c1
  have se : s_X9_endSum (nI E.b) N τ1 = s_X9_goAgainst N τ1 := by
    unfold s_X9_endSum
    rw [if_pos tp]
    rfl
  have pe : p_X9_goAgainst N τ1 → p_X9_endSum (nI E.b) N τ1 := fun y => ⟨hS.top.1, fun _ => y, fun z => absurd tp z⟩
  obtain ⟨N1, hN1⟩ : ∃ z, N = z + 1 := ⟨N - 1, by omega⟩
  rw [se]
  refine ⟨fun ⟨k1, k2, k3⟩ => ?_, fun ko => ?_⟩
  · rw [if_neg k1] at a2
    rw [if_neg k2] at b2
    rw [if_neg k3] at c2
    have ff : FLm 1 τ1 (s_X9_fail 1 τ1) := rf_fail (c := 1) h25
    have nz : ¬ (s_X9_fail 1 τ1).1 468 25 ≤ 0 := by
      have : s_X9_fail 1 τ1 = zuI (zuI τ1 468 25 (nI 1)) 468 26 (τ1.1 468 21) := ff
      rw [this, gI_n (by omega), gI_h rfl rfl]
      decide
    have lg : l_X9_goAgainst N N 11 (s_X9_fail 1 τ1) = s_X9_fail 1 τ1 ∧ q_X9_goAgainst N N 11 (s_X9_fail 1 τ1) := by
      have x1 : l_X9_goAgainst N (N1 + 1) 11 (s_X9_fail 1 τ1) = s_X9_fail 1 τ1 := by rw [l_X9_goAgainst, if_neg nz]
      have x2 : q_X9_goAgainst N (N1 + 1) 11 (s_X9_fail 1 τ1) := by rw [q_X9_goAgainst]; exact fun y => absurd y nz
      rw [← hN1] at x1 x2
      exact ⟨x1, x2⟩
    refine ⟨pe ?_, ?_⟩
    · unfold p_X9_goAgainst u_X9_goAgainst_1
      rw [a2, b2, c2]
      exact ⟨a1, fun _ => ⟨b1, fun _ => ⟨a1, fun y => absurd rfl y, fun _ => ⟨b1, fun y => absurd rfl y, fun _ => ⟨c1, fun y => absurd rfl y, fun _ => lg.2⟩⟩⟩, fun y => absurd rfl y⟩, fun y => absurd rfl y⟩
    · have : s_X9_goAgainst N τ1 = s_X9_fail 1 τ1 := by
        unfold s_X9_goAgainst u_X9_goAgainst_1
        rw [a2, if_pos rfl, b2, if_pos rfl, if_pos rfl, if_pos rfl, c2, if_pos rfl, lg.1]
      rw [this]
      exact ff
  · have hw1 := hS.2.1
    have cw : (τ1.1 468 37 - 1).toNatClampNeg = wt := by
      rw [hS.1, nI_s1 (by omega), nI_clamp (by omega)]
      omega
    have vw : vp_in (τ1.1 468 37 - 1) 200 := by
      rw [hS.1, nI_s1 (by omega)]
      exact vp_in_nI (by omega) (by decide)
    have e2 : u_X9_goAgainst_h0_2 N (nI o) τ1 = zuI (zuI τ1 489 wt 101) 491 wt (nI o) := by
      unfold u_X9_goAgainst_h0_2 u_X9_goAgainst_h0_1
      rw [gI_n (by omega), cw]
    generalize hτa : zuI (zuI τ1 489 wt 101) 491 wt (nI o) = τa at e2
    have oA : ∀ Q j, ¬ ((Q = 489 ∨ Q = 491) ∧ j = wt) → τa.1 Q j = τ1.1 Q j := fun Q j y => by rw [← hτa, gI_n (by omega), gI_n (by omega)]
    have fa : rfr (sRM E.b) τ1 τa := ⟨by rw [← hτa]; rfl, fun Q j y => oA Q j (fun z => y (by unfold sRM; omega))⟩
    obtain ⟨n1, n2, n3, s2, e2', kd2, v2, w2, t1, t2, t3, t4⟩ := nx_step (N := N) (sg := 1) hE hT fa (oA _ _ (by omega)) hN
    have lg : l_X9_goAgainst N N (nI o) τ1 = zuI (s_X9_scan N τa) 468 39 (nI 1) ∧ q_X9_goAgainst N N (nI o) τ1 := by
      have x1 : l_X9_goAgainst N (N1 + 1) (nI o) τ1 = zuI (s_X9_scan N τa) 468 39 (nI 1) := by
        rw [l_X9_goAgainst, h25, if_pos z0]
        unfold u_X9_goAgainst_h0_4 u_X9_goAgainst_h0_3
        rw [e2]
        rfl
      have x2 : q_X9_goAgainst N (N1 + 1) (nI o) τ1 := by
        rw [q_X9_goAgainst]
        exact fun _ => ⟨vw, by unfold u_X9_goAgainst_h0_1; rw [gI_n (by omega)]; exact vw, by rw [e2]; exact n2⟩
      rw [← hN1] at x1 x2
      exact ⟨x1, x2⟩
    have sg : s_X9_goAgainst N τ1 = zuI (s_X9_scan N τa) 468 39 (nI 1) ∧ p_X9_goAgainst N τ1 := by
      rw [← lg.1]
      have lg2 := lg.2
      rcases ko with ⟨k1, rfl⟩ | ⟨k1, rfl⟩ | ⟨k1, rfl⟩
      · rw [if_pos k1] at a2
        unfold s_X9_goAgainst p_X9_goAgainst
        rw [a2]
        exact ⟨by rw [if_neg n10, if_neg n10]; rfl, a1, fun y => absurd y n10, fun _ => ⟨a1, fun _ => lg2, fun y => absurd y n10⟩⟩
      · rw [if_neg (by omega)] at a2
        rw [if_pos k1] at b2
        unfold s_X9_goAgainst p_X9_goAgainst
        rw [a2, b2]
        exact ⟨by rw [if_pos rfl, if_neg n10, if_pos rfl, if_neg n10]; rfl, a1, fun _ => ⟨b1, fun y => absurd y n10, fun _ => ⟨a1, fun y => absurd rfl y, fun _ => ⟨b1, fun _ => lg2, fun y => absurd y n10⟩⟩⟩, fun y => absurd rfl y⟩
      · rw [if_neg (by omega)] at a2 b2
        rw [if_pos k1] at c2
        unfold s_X9_goAgainst p_X9_goAgainst
        rw [a2, b2, c2]
        exact ⟨by rw [if_pos rfl, if_pos rfl, if_pos rfl, if_pos rfl, if_neg n10]; rfl, a1, fun _ => ⟨b1, fun _ => ⟨a1, fun y => absurd rfl y, fun _ => ⟨b1, fun y => absurd rfl y, fun _ => ⟨c1, fun _ => lg2, fun y => absurd y n10⟩⟩⟩, fun y => absurd rfl y⟩, fun y => absurd rfl y⟩
    refine ⟨n1, n3, pe sg.2, s2, e2', kd2, v2, w2, ?_⟩
    rw [sg.1]
    refine ⟨t1, t2, t3, ⟨?_, hw1, fun i hi => ?_⟩, gI_h rfl rfl, ?_, fun Q j y1 y2 => ?_⟩
    · rw [t4 _ _ (by omega), oA _ _ (by omega)]; exact hS.1
    · show (if i = wt then 101 else W i) < 128 ∧ _ = nI (if i = wt then 101 else W i)
      rw [t4 _ _ (by omega)]
      by_cases c : i = wt
      · rw [if_pos c, c, ← hτa, gI_n (by omega), gI_h rfl rfl]
        exact ⟨by decide, rfl⟩
      · rw [if_neg c, oA _ _ (by omega)]
        exact hS.2.2 i hi
    · rw [t4 _ _ (by omega), ← hτa]; exact gI_h rfl rfl
    · rw [t4 _ _ y1, oA _ _ y2]
end IS
