/-! a function's formula as a whole -/
section IS
variable {N : Nat} {E : EV} {σ σ1 σ2 τ τ1 τ2 : zS} {K K1 K2 : aK} {H H1 : Nat → Nat}
theorem body_sim {s e kd v w u L : Nat} (hE : EN E σ τ) (hT : TKs E.tx E.nb s e kd v w σ τ) (hu : σ.1 E.q 8 = nI u ∧ τ.1 478 E.b = nI u ∧ u ≤ 80) (hC : CKc σ E.q K L) (hM : MKc τ E.b K L) (hLu : L ≤ 4 * u) (h25 : τ.1 468 25 = 0) (h26 : σ.1 2 6 = -1) (hH : H L = 0) (htk : ∀ f, f < E.nf → K.2.2.2 f = E.ar f) (hN : 200000 < N) : p_X3_rd 0 N σ ∧ p_X9_readBody (nI E.b) N τ ∧ (((r_X3_rd 0 N σ).1 = 0 ∧ FTL E (r_X3_rd 0 N σ).2 (s_X9_readBody (nI E.b) N τ) ∧ rfr (sRD E.q) σ (r_X3_rd 0 N σ).2 ∧ rfr (sRN E.b) τ (s_X9_readBody (nI E.b) N τ)) ∨ ((r_X3_rd 0 N σ).1 = 1 ∧ ∃ s1 e1 kd1 v1 w1 u1 K1 H1 L1, TKs E.tx E.nb s1 e1 kd1 v1 w1 (r_X3_rd 0 N σ).2 (s_X9_readBody (nI E.b) N τ) ∧ EN E (r_X3_rd 0 N σ).2 (s_X9_readBody (nI E.b) N τ) ∧ ((r_X3_rd 0 N σ).2.1 E.q 8 = nI u1 ∧ (s_X9_readBody (nI E.b) N τ).1 478 E.b = nI u1 ∧ u1 ≤ 80) ∧ CKc (r_X3_rd 0 N σ).2 E.q K1 L1 ∧ MKc (s_X9_readBody (nI E.b) N τ) E.b K1 L1 ∧ (s_X9_readBody (nI E.b) N τ).1 468 25 = 0 ∧ (r_X3_rd 0 N σ).2.1 2 6 = -1 ∧ TS K H L K1 H1 L1 E.nf ∧ H1 L1 = 1 ∧ (u < u1 ∧ L1 + 2 ≤ L + 4 * (u1 - u)) ∧ s < s1 ∧ rfr (sRC E.q) σ (r_X3_rd 0 N σ).2 ∧ rfr (sRM E.b) τ (s_X9_readBody (nI E.b) N τ))) := by
  have q3 := hE.2.2.2.2.1.2.1
  generalize hτ0 : zuI (zuI (zuI τ 468 37 0) 468 38 0) 468 39 0 = τ0
  have e0 : u_X9_readBody_3 (nI E.b) N τ = τ0 := hτ0
  have o0 : ∀ Q j, ¬ (Q = 468 ∧ 37 ≤ j ∧ j ≤ 39) → τ0.1 Q j = τ.1 Q j := fun Q j y => by rw [← hτ0, gI_n (by omega), gI_n (by omega), gI_n (by omega)]
  have f0 : rfr (sRM E.b) τ τ0 := ⟨by rw [← hτ0]; rfl, fun Q j y => o0 Q j (fun z => y (Or.inl ⟨z.1, Or.inr z.2⟩))⟩
  have hS0 : SKs τ0 0 (fun _ => 0) := ⟨by rw [← hτ0, gI_n (by omega), gI_n (by omega)]; exact gI_h rfl rfl, by omega, fun i hi => by omega⟩
  have t39 : τ0.1 468 39 = nI 0 := by rw [← hτ0]; exact gI_h rfl rfl
  have hps : PS E s e kd v w u K L L 0 (fun _ => 0) 0 0 σ τ0 := ⟨hE.fr rfr.rf f0, hT.eq (fun _ _ _ => rfl) (fun jx _ _ => o0 _ _ (by omega)), ⟨hu.1, (o0 _ _ (by omega)).trans hu.2.1, hu.2.2⟩, hC, hM.eq (fun Q j y => o0 _ _ (by omega)), hS0, by rw [← hτ0, gI_n (by omega)]; exact gI_h rfl rfl, t39, (o0 _ _ (by omega)).trans h25⟩
  have tp : f_X9_top τ0 = -1 := hS0.top.2
  have n105 : ¬ (-1 : Int32) = 105 := by decide
  have tm1 : f_X9_isTooMany (nI E.b) τ0 = 0 := by
    unfold f_X9_isTooMany
    rw [tp, if_neg n105]
    split <;> rfl
  have tm2 : p_X9_isTooMany (nI E.b) τ0 := fun _ => ⟨hS0.top.1, fun y => absurd (tp.symm.trans y) n105⟩
  obtain ⟨g1, g2⟩ := (sim_all hN q3 60 60 (Nat.le_refl _)).2.1 s e kd v w u K H L 0 0 0 0 (fun _ => 0) σ τ0 hps (Or.inl rfl) (by decide) (by omega) (fun _ => rfl) (Or.inl ⟨tm1, h26⟩) tm2 (fun _ => ⟨Or.inl rfl, fun y => absurd y n105⟩) hH (by omega) (by omega) (by omega) hLu htk (by omega)
  have g1 : p_X3_rd 0 N σ := g1
  have g2 : RES E N K H L 0 u s 0 (r_X3_rd 0 N σ) σ τ0 (QT E 0 0 1 1 (fun _ => 0)) := g2
  have eS : s_X9_readBody (nI E.b) N τ = l_X9_readBody N N (nI E.b) τ0 := by
    unfold s_X9_readBody
    rw [e0]
  have eP : q_X9_readBody N N (nI E.b) τ0 → p_X9_readBody (nI E.b) N τ := fun y => by
    unfold p_X9_readBody
    rw [e0]
    exact y
  rw [eS]
  refine ⟨g1, ?_⟩
  have hse := hT.1
  have hen := hT.2.1
  have hnb := hE.2.1.2.1
  rcases g2 with ⟨x0, jj, τ1, x1, x2, x3, x4, x5⟩ | ⟨-, gg, s1, e1, kd1, v1, w1, u1, K1, H1, L1, jj, τ1, x1, x2, x3, x4, x5, x6, x7, x8, ⟨x91, x92⟩, ⟨y1, y2⟩, ⟨y3, y4⟩, y5, y6, y7, y8, z1⟩
  · obtain ⟨z, hz⟩ : ∃ z, N = z + 1 + jj := ⟨N - jj - 1, by omega⟩
    obtain ⟨r1, r2⟩ := x2 (z + 1)
    rw [← hz] at r1 r2
    have nf : ¬ τ1.1 468 25 = 0 := by
      obtain ⟨⟨c, p, c1, c2, c3, c4, c5, c6, c7⟩, -⟩ := x3
      rw [c6]
      exact nI_ne0 (by omega) (by omega)
    obtain ⟨s1, s2⟩ := rn_stop (N := N) (b := E.b) (z := z) (Or.inl nf)
    rw [r1, s1]
    exact ⟨eP (r2 s2), Or.inl ⟨x0, x3, x4, f0.nn.tr x5⟩⟩
  · have s1n : s1 ≤ E.nb := by
      have := x1.1
      have := x1.2.1
      omega
    obtain ⟨τ2, v1', v2', v3', v4', v5'⟩ := rf_end (W := fun _ => 0) x1 x2 x6 x5 (by decide) (by omega) z1 hN
    have o5 : ∀ Q jx, ¬ (sLa E.b Q jx ∨ (Q = 468 ∧ jx = 37)) → τ2.1 Q jx = τ1.1 Q jx := v3'.2
    have tp2 : f_X9_top τ2 = -1 := v1'.top.2
    have nn : ∀ c : Int32, ¬ (-1 : Int32) = c → ¬ f_X9_top τ2 = c := fun c y z => y (tp2.symm.trans z)
    have se : s_X9_endSum (nI E.b) N τ2 = zuI τ2 468 39 3 := by
      unfold s_X9_endSum
      rw [if_neg (nn _ (by decide)), if_neg (nn _ (by decide)), if_neg (nn _ (by decide)), if_neg (nn _ (by decide)), if_neg (nn _ (by decide)), if_neg (nn _ (by decide))]
      rfl
    have pe : p_X9_endSum (nI E.b) N τ2 := ⟨v1'.top.1, fun z => absurd z (nn _ (by decide)), fun _ => ⟨fun z => absurd z (nn _ (by decide)), fun _ => ⟨fun z => absurd z (nn _ (by decide)), fun _ => ⟨fun z => absurd z (nn _ (by decide)), fun _ => ⟨fun z => absurd z (nn _ (by decide)), fun _ z => absurd z (nn _ (by decide))⟩⟩⟩⟩⟩
    have rn := v5' pe
    rw [se] at rn
    have RN := y5.tr rn
    obtain ⟨z, hz⟩ : ∃ z, N = z + 1 + (jj + 1) := ⟨N - (jj + 1) - 1, by omega⟩
    obtain ⟨r1, r2⟩ := RN (z + 1)
    rw [← hz] at r1 r2
    obtain ⟨st1, st2⟩ := rn_stop (N := N) (b := E.b) (z := z) (τ := zuI τ2 468 39 3) (Or.inr (gI_h rfl rfl))
    rw [r1, st1]
    have fM : rfr (sRM E.b) τ1 (zuI τ2 468 39 3) := v3'.l37.uI (Or.inl ⟨rfl, Or.inr ⟨by omega, by omega⟩⟩)
    have oz : ∀ Q jx, ¬ (sLa E.b Q jx ∨ (Q = 468 ∧ (jx = 37 ∨ jx = 39))) → (zuI τ2 468 39 3).1 Q jx = τ1.1 Q jx := fun Q jx y => by rw [gI_n (fun z => y (Or.inr ⟨z.1, Or.inr z.2⟩)), o5 _ _ (fun z => y (z.elim Or.inl (fun z => Or.inr ⟨z.1, Or.inl z.2⟩)))]
    refine ⟨eP (r2 st2), Or.inr ⟨gg, s1, e1, kd1, v1, w1, u1, K1, H1, L1, x1.eq (fun _ _ _ => rfl) (fun jx _ _ => oz _ _ (fun z => by unfold sLa at z; omega)), x2.fr rfr.rf fM, ⟨x3.1, (oz _ _ (fun z => by unfold sLa at z; omega)).trans x3.2.1, x3.2.2⟩, x4, v2'.eq (fun Q j y => gI_n (by omega)), (oz _ _ (fun z => by unfold sLa at z; omega)).trans x6, x7, x8, x91, ⟨y1, y2⟩, y3, y6, (f0.tr y7).tr fM⟩⟩
end IS
