/-! room is made -/
def aSp (W u p : Nat) : Nat → Nat → (Nat → Int32) → (Nat → Int32)
  | 0, _, A => A
  | m + 1, R, A => aSp W u p m (R - 1) (aOut A u (wat W p (R - 1)))
theorem aOut_n {A : Nat → Int32} {u w i : Nat} (h1 : ¬ i = 12 + w) (h2 : ¬ i = 24 + w) (h3 : ¬ i = 138 + 20 * u) : aOut A u w i = A i := by
  unfold aOut
  rw [pk_un h3, pk_un h2, pk_un h1]
theorem aSp_n {W u p i : Nat} (hW : W ≤ 12) (hp : p < W) (h1 : ¬ (12 ≤ i ∧ i < 36)) (h3 : ¬ i = 138 + 20 * u) : ∀ (m R : Nat) (A : Nat → Int32), R ≤ W → aSp W u p m R A i = A i
  | 0, _, _, _ => rfl
  | m + 1, R, A, hR => by
    have hl : wat W p (R - 1) < W := wat_lt hp (by omega)
    rw [aSp, aSp_n hW hp h1 h3 m (R - 1) _ (by omega), aOut_n (by omega) (by omega) h3]
theorem aSp_free {W u p x : Nat} (hW : W ≤ 12) (hp : p < W) (hx : x < W) : ∀ (m R : Nat) (A : Nat → Int32), R ≤ W → A (12 + x) = -1 → aSp W u p m R A (12 + x) = -1
  | 0, _, _, _, h => h
  | m + 1, R, A, hR, h => by
    have hl : wat W p (R - 1) < W := wat_lt hp (by omega)
    rw [aSp]
    apply aSp_free hW hp hx m (R - 1) _ (by omega)
    by_cases c : x = wat W p (R - 1)
    · unfold aOut
      rw [pk_un (by omega), pk_un (by omega), c, pk_us]
    · rw [aOut_n (by omega) (by omega) (by omega)]
      exact h
theorem aSp_eld {W u p m R : Nat} {A : Nat → Int32} (hW : W ≤ 12) (hp : p < W) (hR : R ≤ W) (h1 : 1 ≤ R) (hm : 1 ≤ m) : aSp W u p m R A (12 + wat W p (R - 1)) = -1 := by
  obtain ⟨m, rfl⟩ : ∃ k, m = k + 1 := ⟨m - 1, by omega⟩
  have hl : wat W p (R - 1) < W := wat_lt hp (by omega)
  rw [aSp]
  apply aSp_free hW hp hl m (R - 1) _ (by omega)
  unfold aOut
  rw [pk_un (by omega), pk_un (by omega), pk_us]
theorem aOut_upd {A : Nat → Int32} {u w j : Nat} {y : Int32} (h1 : ¬ j = 12 + w) (h2 : ¬ j = 24 + w) (h3 : ¬ j = 138 + 20 * u) : aOut (upd A j y) u w = upd (aOut A u w) j y := by
  unfold aOut
  rw [pk_un (fun z => h3 z.symm), upd_c h1, upd_c h2, upd_c h3]
theorem aSp_upd {W u p j : Nat} {y : Int32} (hW : W ≤ 12) (hp : p < W) (h1 : ¬ (12 ≤ j ∧ j < 36)) (h3 : ¬ j = 138 + 20 * u) : ∀ (m R : Nat) (A : Nat → Int32), R ≤ W → aSp W u p m R (upd A j y) = upd (aSp W u p m R A) j y
  | 0, _, _, _ => rfl
  | m + 1, R, A, hR => by
    have hl : wat W p (R - 1) < W := wat_lt hp (by omega)
    rw [aSp, aSp, aOut_upd (by omega) (by omega) h3, aSp_upd hW hp h1 h3 m (R - 1) _ (by omega)]
theorem aSp_wf {W u : Nat} {D TP ST : Nat → Nat} (hu : u < 4) : ∀ (m : Nat) (A : Nat → Int32) (RS : Nat → Nat), WF A W D RS TP ST → m ≤ RS u → WF (aSp W u (TP u) m (RS u) A) W D (fu RS u (RS u - m)) TP ST
  | 0, A, RS, h, _ => by
    have e : fu RS u (RS u - 0) = RS := by
      funext s
      unfold fu
      by_cases c : s = u
      · rw [if_pos c, c]
        rfl
      · rw [if_neg c]
    rw [e]
    exact h
  | m + 1, A, RS, h, hm => by
    have h1 := wf_spill h hu (by omega)
    have h2 := aSp_wf hu m _ _ h1 (by rw [fu_s]; omega)
    rw [fu_s] at h2
    have e : fu (fu RS u (RS u - 1)) u (RS u - 1 - m) = fu RS u (RS u - (m + 1)) := by
      funext s
      unfold fu
      by_cases c : s = u
      · rw [if_pos c, if_pos c]
        omega
      · rw [if_neg c, if_neg c, if_neg c]
    rw [e] at h2
    rw [aSp]
    exact h2
theorem cl_spill {sl al r u W n p Dn N : Nat} {v1 v2 v4 : Int32} (hl : Rly r) (hu : u < 4) (hW : 2 ≤ W ∧ W ≤ 12) (hp : p < W) (hDn : Dn ≤ 60) : ∀ (m i R : Nat) (σ : zS) (A : Nat → Int32), i + m ≤ 12 → m ≤ R → R ≤ Dn → R ≤ W → CSt σ r W n → CRel sl al σ r A → σ.1 (r + 5 + 5 * u) 3 = nI p → A (137 + 20 * u) = nI Dn → A (138 + 20 * u) = nI R → ∀ z, m < z → ∃ σ1, l_X4_makeRoom r N z v1 v2 (nI u) v4 (r + 5 + 5 * u) (nI (i + m)) (nI i) σ = u_X4_makeRoom_h0_3 r N v1 v2 (nI u) v4 (r + 5 + 5 * u) (nI (i + m)) (nI (i + m)) σ1 ∧ ((p_X4_taskAt r v1 (u_X4_makeRoom_h0_1 r N v1 v2 (nI u) v4 (r + 5 + 5 * u) (nI (i + m)) (nI (i + m)) σ1) ∧ p_X4_noteTrap r 0 v1 (nI (i + m)) (nI u) (u_X4_makeRoom_h0_2 r N v1 v2 (nI u) v4 (r + 5 + 5 * u) (nI (i + m)) (nI (i + m)) σ1)) → q_X4_makeRoom r N z v1 v2 (nI u) v4 (r + 5 + 5 * u) (nI (i + m)) (nI i) σ) ∧ CSt σ1 r W n ∧ CRel sl al σ1 r (aSp W u p m R A) ∧ rfr (sW r u) σ σ1 := by
  intro m
  induction m with
  | zero =>
    intro i R σ A hi hm hR hRW hs hC h3 hD hRs z hz
    obtain ⟨z, rfl⟩ : ∃ y, z = y + 1 := ⟨z - 1, by omega⟩
    have c : nI (i + 0) ≤ nI i := nI_le (by omega) (by omega)
    refine ⟨σ, ?_, fun hq => ?_, hs, hC, rfr.rf⟩
    · rw [l_X4_makeRoom, if_pos c]
      rfl
    · rw [q_X4_makeRoom]
      exact ⟨fun _ => hq, fun y => absurd c y⟩
  | succ m ih =>
    intro i R σ A hi hm hR hRW hs hC h3 hD hRs z hz
    obtain ⟨z, rfl⟩ : ∃ y, z = y + 1 := ⟨z - 1, by omega⟩
    have c : ¬ nI (i + (m + 1)) ≤ nI i := nI_ge (by omega) (by omega)
    have ew : ((σ.1 (r + 5 + 5 * u + 1) 0) - (σ.1 (r + 5 + 5 * u) 2)) + 1 = nI (Dn - (R - 1)) := by
      rw [show r + 5 + 5 * u + 1 = r + 6 + 5 * u by omega, hC _ _ _ (lk_d hu), hC _ _ _ (lk_r hu), hD, hRs, pk_sub hR, nI_1]
      congr 1
      omega
    have ef := cl_winOf (f := R - 1) hs hC hu hW hp (by omega) (by omega) hRW hDn h3 hD hRs
    have hx : wat W p (R - 1) < W := wat_lt hp (by omega)
    obtain ⟨o1, o2, o3, o4⟩ := cl_out (w := wat W p (R - 1)) hl hs hC hu (by omega)
    have eu : u_X4_makeRoom_h0_4 r N v1 v2 (nI u) v4 (r + 5 + 5 * u) (nI (i + (m + 1))) (nI i) σ = s_X4_moveOut r (nI u) (nI (wat W p (R - 1))) σ := by
      unfold u_X4_makeRoom_h0_4
      rw [ew, ef]
    have h3' : (s_X4_moveOut r (nI u) (nI (wat W p (R - 1))) σ).1 (r + 5 + 5 * u) 3 = nI p := by
      rw [o4.2 _ _ (fun y => by unfold sW at y; omega)]
      exact h3
    have hD' : aOut A u (wat W p (R - 1)) (137 + 20 * u) = nI Dn := by
      rw [aOut_n (by omega) (by omega) (by omega)]
      exact hD
    have hR' : aOut A u (wat W p (R - 1)) (138 + 20 * u) = nI (R - 1) := by
      unfold aOut
      rw [pk_us, hRs, nI_s1 (by omega)]
    obtain ⟨σ1, r1, r2, r3, r4, r5⟩ := ih (i + 1) (R - 1) _ _ (by omega) (by omega) (by omega) (by omega) o3 o2 h3' hD' hR' z (by omega)
    rw [show i + 1 + m = i + (m + 1) by omega] at r1 r2
    refine ⟨σ1, ?_, fun hq => ?_, r3, r4, o4.tr r5⟩
    · rw [l_X4_makeRoom, if_neg c, eu, nI_1]
      exact r1
    · rw [q_X4_makeRoom, eu, ew, ef, nI_1]
      exact ⟨fun y => absurd y c, fun _ => ⟨tk_p hl hs.2.2 hu, o1, r2 hq⟩⟩
theorem rf_frm {τ : zS} {A : Nat → Int32} {t : Nat} (hM : MRel τ A) (ht : t < 4) : f_X9_frames (nI t) τ = A (137 + 20 * t) ∧ p_X9_frames (nI t) τ ∧ f_X9_resident (nI t) τ = A (138 + 20 * t) ∧ p_X9_resident (nI t) τ ∧ f_X9_state (nI t) τ = A (136 + 20 * t) ∧ p_X9_state (nI t) τ := by
  unfold f_X9_frames p_X9_frames f_X9_resident p_X9_resident f_X9_state p_X9_state
  rw [at_1, at_2, at_0, nI_clamp (by omega), nI_clamp (by omega), nI_clamp (by omega), show 136 + 20 * t + 1 = 137 + 20 * t by omega, show 136 + 20 * t + 2 = 138 + 20 * t by omega, show 136 + 20 * t + 0 = 136 + 20 * t by omega]
  exact ⟨hM _ (by omega), vp_in_nI (by omega) (by decide), hM _ (by omega), vp_in_nI (by omega) (by decide), hM _ (by omega), vp_in_nI (by omega) (by decide)⟩
theorem rf_spill {u W n p Dn N B : Nat} {v1 v2 v3 : Int32} (hu : u < 4) (hW : 2 ≤ W ∧ W ≤ 12) (hp : p < W) (hDn : Dn ≤ 60) : ∀ (m i R : Nat) (τ : zS) (A : Nat → Int32), i + m ≤ 12 → m ≤ R → R ≤ Dn → R ≤ W → WK τ B W n → MRel τ A → A (148 + 20 * u) = nI p → A (137 + 20 * u) = nI Dn → A (138 + 20 * u) = nI R → ∀ z, m < z → ∃ τ1, l_X9_makeRoom N z v1 v2 v3 (nI u) (nI (i + m)) (nI i) τ = u_X9_makeRoom_h0_2 N v1 v2 v3 (nI u) (nI (i + m)) (nI (i + m)) τ1 ∧ (p_X9_tellTrap 0 v1 (nI (i + m)) (nI u) N (u_X9_makeRoom_h0_1 N v1 v2 v3 (nI u) (nI (i + m)) (nI (i + m)) τ1) → q_X9_makeRoom N z v1 v2 v3 (nI u) (nI (i + m)) (nI i) τ) ∧ MRel τ1 (aSp W u p m R A) ∧ rfr sN τ τ1 := by
  intro m
  induction m with
  | zero =>
    intro i R τ A hi hm hR hRW hK hM h3 hD hRs z hz
    obtain ⟨z, rfl⟩ : ∃ y, z = y + 1 := ⟨z - 1, by omega⟩
    have c : nI (i + 0) ≤ nI i := nI_le (by omega) (by omega)
    refine ⟨τ, ?_, fun hq => ?_, hM, rfr.rf⟩
    · rw [l_X9_makeRoom, if_pos c]
      rfl
    · rw [q_X9_makeRoom]
      refine ⟨fun _ => ⟨?_, hq⟩, fun y => absurd c y⟩
      rw [at_9]
      exact vp_in_nI (by omega) (by decide)
  | succ m ih =>
    intro i R τ A hi hm hR hRW hK hM h3 hD hRs z hz
    obtain ⟨z, rfl⟩ : ∃ y, z = y + 1 := ⟨z - 1, by omega⟩
    have c : ¬ nI (i + (m + 1)) ≤ nI i := nI_ge (by omega) (by omega)
    obtain ⟨g1, g2, g3, g4, -, -⟩ := rf_frm hM hu
    have ew : ((f_X9_frames (nI u) τ) - (f_X9_resident (nI u) τ)) + 1 = nI (Dn - (R - 1)) := by
      rw [g1, g3, hD, hRs, pk_sub hR, nI_1]
      congr 1
      omega
    obtain ⟨ef, pf⟩ := rf_winOf (f := R - 1) hM hK hW hu hp (by omega) (by omega) hDn h3 hD
    have hx : wat W p (R - 1) < W := wat_lt hp (by omega)
    obtain ⟨o1, o2, o3⟩ := rf_place (w := wat W p (R - 1)) (x := -1) (y := -1) hM (by omega)
    have eu3 : u_X9_makeRoom_h0_3 N v1 v2 v3 (nI u) (nI (i + (m + 1))) (nI i) τ = s_X9_place (nI (wat W p (R - 1))) (-1) (-1) τ := by
      unfold u_X9_makeRoom_h0_3
      rw [ew, ef]
      rfl
    have eu : u_X9_makeRoom_h0_4 N v1 v2 v3 (nI u) (nI (i + (m + 1))) (nI i) τ = zuI (s_X9_place (nI (wat W p (R - 1))) (-1) (-1) τ) 469 (138 + 20 * u) (A (138 + 20 * u) - 1) := by
      unfold u_X9_makeRoom_h0_4
      rw [eu3, at_2, nI_clamp (by omega), show 136 + 20 * u + 2 = 138 + 20 * u by omega, o2 _ (by omega), pk_un (by omega), pk_un (by omega)]
    have hM' : MRel (zuI (s_X9_place (nI (wat W p (R - 1))) (-1) (-1) τ) 469 (138 + 20 * u) (A (138 + 20 * u) - 1)) (aOut A u (wat W p (R - 1))) := o2.up
    have f' : rfr sN τ (zuI (s_X9_place (nI (wat W p (R - 1))) (-1) (-1) τ) 469 (138 + 20 * u) (A (138 + 20 * u) - 1)) := o3.uI (show sN _ _ from ⟨rfl, by omega⟩)
    have h3' : aOut A u (wat W p (R - 1)) (148 + 20 * u) = nI p := by
      rw [aOut_n (by omega) (by omega) (by omega)]
      exact h3
    have hD' : aOut A u (wat W p (R - 1)) (137 + 20 * u) = nI Dn := by
      rw [aOut_n (by omega) (by omega) (by omega)]
      exact hD
    have hR' : aOut A u (wat W p (R - 1)) (138 + 20 * u) = nI (R - 1) := by
      unfold aOut
      rw [pk_us, hRs, nI_s1 (by omega)]
    obtain ⟨τ1, r1, r2, r3, r4⟩ := ih (i + 1) (R - 1) _ _ (by omega) (by omega) (by omega) (by omega) (hK.fr f' (fun q j y => sN_W y)) hM' h3' hD' hR' z (by omega)
    rw [show i + 1 + m = i + (m + 1) by omega] at r1 r2
    refine ⟨τ1, ?_, fun hq => ?_, r3, f'.tr r4⟩
    · rw [l_X9_makeRoom, if_neg c, eu, nI_1]
      exact r1
    · rw [q_X9_makeRoom, eu, ew, ef, nI_1]
      refine ⟨fun y => absurd y c, fun _ => ⟨g2, g4, pf, o1, ?_, r2 hq⟩⟩
      rw [at_2]
      exact vp_in_nI (by omega) (by decide)
/-- what making room leaves alone -/
def rmp (i : Nat) : Prop := i = 0 ∨ (3 ≤ i ∧ i ≤ 10) ∨ ∃ t, t < 4 ∧ (i = 136 + 20 * t ∨ i = 137 + 20 * t ∨ i = 139 + 20 * t ∨ i = 140 + 20 * t ∨ i = 144 + 20 * t ∨ (146 + 20 * t ≤ i ∧ i ≤ 148 + 20 * t))
def sRm (r : Nat) (q j : Nat) : Prop := (q = r ∧ (j = 10 ∨ j = 11)) ∨ q = r + 1 ∨ q = r + 2 ∨ q = r + 3 ∨ ∃ u, u < 4 ∧ q = r + 5 + 5 * u ∧ (j = 2 ∨ j = 6 ∨ j = 7 ∨ j = 8 ∨ j = 10)
theorem aTrap_n {A : Nat → Int32} {kd t m o : Int32} {i : Nat} (h : ¬ (i = 1 ∨ i = 2 ∨ i = 11 ∨ (36 ≤ i ∧ i < 136))) : aTrap A kd t m o i = A i := by
  unfold aTrap
  rw [if_neg (by omega), if_neg (by omega), if_neg (by omega), if_neg (by omega), if_neg (by omega), if_neg (by omega), if_neg (by omega), if_neg (by omega), if_neg (by omega)]
theorem pr_room {sl al r t w W n N B T M cl : Nat} {σ τ : zS} {A : Nat → Int32} {D RS TP ST : Nat → Nat} {dT dM : Int32} (hl : Rly r) (hN : 500 < N) (hs : CSt σ r W n) (hC : CRel sl al σ r A) (hO : COf al σ r A dT dM T M) (hT : T < 2 ^ 29) (h3 : ∀ t, t < 4 → 1 ≤ RS t → σ.1 (r + 5 + 5 * t) 3 = nI (TP t)) (hK : WK τ B W n) (hM : MRel τ A) (h : WF A W D RS TP ST) (ht : t < 4) (hw : w < W) (hcl : cl ≤ 1) (hE : A (12 + w) = -1 ∨ ∃ u, u < 4 ∧ 1 ≤ RS u ∧ A (12 + w) = nI u ∧ w = wat W (TP u) (RS u - 1) ∧ (u = t → cl = 1 ∧ 2 ≤ RS t)) : p_X4_makeRoom r (nI t) (nI w) N σ ∧ p_X9_makeRoom (nI t) (nI w) (nI cl) N τ ∧ ∃ (A' : Nat → Int32) (RS' : Nat → Nat) (T' M' : Nat), CRel sl al (s_X4_makeRoom r (nI t) (nI w) N σ) r A' ∧ CSt (s_X4_makeRoom r (nI t) (nI w) N σ) r W n ∧ COf al (s_X4_makeRoom r (nI t) (nI w) N σ) r A' dT dM T' M' ∧ rfr (sRm r) σ (s_X4_makeRoom r (nI t) (nI w) N σ) ∧ MRel (s_X9_makeRoom (nI t) (nI w) (nI cl) N τ) A' ∧ rfr sN τ (s_X9_makeRoom (nI t) (nI w) (nI cl) N τ) ∧ WF A' W D RS' TP ST ∧ A' (12 + w) = -1 ∧ (T ≤ T' ∧ T' ≤ T + 1) ∧ (M ≤ M' ∧ M' ≤ M + 12) ∧ (∀ i, rmp i → A' i = A i) ∧ (∀ v, RS' v ≤ RS v) ∧ (1 ≤ RS t → 1 ≤ RS' t) := by
  have hW := h.1
  have e12 : (12 : Int32) + nI w = nI (12 + w) := by rw [(show (12 : Int32) = nI 12 from rfl), nI_add]
  have eO : f_X8_at 12 (r + 1) (nI w) σ = A (12 + w) := by rw [at_i (by omega) (by decide), hC _ _ _ (lk_o (by omega))]
  obtain ⟨fr1, fr2⟩ := rf_free (τ := τ) (w := w) (by omega)
  rw [hM _ (by omega)] at fr1
  by_cases c0 : A (12 + w) = -1
  · rw [if_pos c0] at fr1
    have es : s_X4_makeRoom r (nI t) (nI w) N σ = σ := by
      unfold s_X4_makeRoom
      rw [eO, if_pos c0]
    have et : s_X9_makeRoom (nI t) (nI w) (nI cl) N τ = τ := by
      unfold s_X9_makeRoom
      rw [fr1, if_neg (by decide)]
    rw [es, et]
    refine ⟨⟨at_p (by decide), fun y => absurd (eO.trans c0) y⟩, ⟨fr2, fun y => absurd (fr1.symm.trans y) (by decide)⟩, A, RS, T, M, hC, hs, hO, rfr.rf, hM, rfr.rf, h, c0, by omega, by omega, fun _ _ => rfl, fun _ => Nat.le_refl _, id⟩
  · rw [if_neg c0] at fr1
    obtain ⟨u, hu, hR1, eu, ew, hself⟩ : ∃ u, u < 4 ∧ 1 ≤ RS u ∧ A (12 + w) = nI u ∧ w = wat W (TP u) (RS u - 1) ∧ (u = t → cl = 1 ∧ 2 ≤ RS t) := by
      rcases hE with y | y
      · exact absurd y c0
      · exact y
    obtain ⟨hRW, hTP⟩ := h.lim hu
    have hTP := hTP hR1
    obtain ⟨k, A1, k1, g1, g2, g3, g4, g5, g6, g7, g8, g9, g10⟩ := ask_over hs hC hM h ht
    obtain ⟨-, -, wD, wD6, wR, wRD, -, -, wT, -⟩ := g9.2.1 u hu
    have wT := (wT hR1).1
    have tk := tk_eq hs.2.2 ht
    have cu : u_X4_makeRoom_1 r (nI t) (nI w) N σ = (r_X5_guessToSpill (r + 5 + 5 * t) (σ.1 r 2) (σ.1 r 3) σ).2 := by
      unfold u_X4_makeRoom_1
      rw [tk]
    have mu : u_X9_makeRoom_1 (nI t) (nI w) (nI cl) N τ = (r_X9_askOver (nI t) τ).2 := rfl
    generalize hσ1 : (r_X5_guessToSpill (r + 5 + 5 * t) (σ.1 r 2) (σ.1 r 3) σ).2 = σ1 at g2 g3 g4 cu
    generalize hτ1 : (r_X9_askOver (nI t) τ).2 = τ1 at g7 g8 mu
    have tku := tk_eq g3.2.2 hu
    -- how many go out
    generalize hcnt : (if k ≤ (if u = t then RS u - 1 else RS u) then k else (if u = t then RS u - 1 else RS u)) = cnt
    have hc1 : 1 ≤ cnt ∧ cnt ≤ RS u ∧ cnt ≤ 12 ∧ (u = t → cnt ≤ RS u - 1) := by
      rw [← hcnt]
      by_cases y : u = t
      · have := hself y
        subst y
        rw [if_pos rfl]
        by_cases y1 : k ≤ RS u - 1
        · rw [if_pos y1]
          omega
        · rw [if_neg y1]
          omega
      · rw [if_neg y]
        by_cases y1 : k ≤ RS u
        · rw [if_pos y1]
          omega
        · rw [if_neg y1]
          omega
    have kR : σ1.1 (r + 5 + 5 * u) 2 = nI (RS u) := (g2 _ _ _ (lk_r hu)).trans wR
    have k3 : σ1.1 (r + 5 + 5 * u) 3 = nI (TP u) := by
      rw [g4.2 _ _ (fun y => by unfold sAsk at y; omega)]
      exact h3 u hu hR1
    obtain ⟨σ2, r1, r2, r3, r4, r5⟩ := cl_spill (sl := sl) (al := al) (N := N) (v1 := nI t) (v2 := nI w) (v4 := nI k) hl hu hW hTP wD6 cnt 0 (RS u) σ1 A1 (by omega) hc1.2.1 wRD hRW g3 g2 k3 wD wR N (by omega)
    rw [Nat.zero_add] at r1 r2
    have wT' : upd A1 (143 + 20 * t) (A (143 + 20 * t) + 1) (148 + 20 * u) = nI (TP u) := (pk_un (by omega)).trans wT
    have wD' : upd A1 (143 + 20 * t) (A (143 + 20 * t) + 1) (137 + 20 * u) = nI (D u) := (pk_un (by omega)).trans wD
    have wR' : upd A1 (143 + 20 * t) (A (143 + 20 * t) + 1) (138 + 20 * u) = nI (RS u) := (pk_un (by omega)).trans wR
    obtain ⟨τ2, m1, m2, m3, m4⟩ := rf_spill (N := N) (v1 := nI t) (v2 := nI w) (v3 := nI cl) hu hW hTP wD6 cnt 0 (RS u) τ1 _ (by omega) hc1.2.1 wRD hRW (hK.fr g8 (fun q j y => sN_W y)) g7 wT' wD' wR' N (by omega)
    rw [Nat.zero_add] at m1 m2
    rw [aSp_upd hW.2 hTP (by omega) (by omega) _ _ _ hRW] at m3
    generalize hA2 : aSp W u (TP u) cnt (RS u) A1 = A2 at r4 m3
    have hWF2 : WF A2 W D (fu RS u (RS u - cnt)) TP ST := by
      rw [← hA2]
      exact aSp_wf hu cnt A1 RS g9 hc1.2.1
    have n2 : ∀ i, ¬ (12 ≤ i ∧ i < 36) → ¬ i = 138 + 20 * u → A2 i = A1 i := fun i q1 q2 => by
      rw [← hA2]
      exact aSp_n hW.2 hTP q1 q2 _ _ _ hRW
    have free2 : A2 (12 + w) = -1 := by
      rw [← hA2, ew]
      exact aSp_eld hW.2 hTP hRW hR1 hc1.1
    -- the class: the end
    have l10 : Lk sl al r (r + 5 + 5 * u) 10 (145 + 20 * u) := by
      have := lk_t (sl := sl) (al := al) (r := r) (t := u) (k := 10) hu (by omega) (by omega)
      rw [show 135 + 20 * u + 10 = 145 + 20 * u by omega] at this
      exact this
    have l8 : Lk sl al r (r + 5 + 5 * t) 8 (143 + 20 * t) := by
      have := lk_t (sl := sl) (al := al) (r := r) (t := t) (k := 8) ht (by omega) (by omega)
      rw [show 135 + 20 * t + 8 = 143 + 20 * t by omega] at this
      exact this
    have eh1 : u_X4_makeRoom_h0_1 r N (nI t) (nI w) (nI u) (nI k) (r + 5 + 5 * u) (nI cnt) (nI cnt) σ2 = zuI σ2 (r + 5 + 5 * u) 10 (A1 (145 + 20 * u) + nI cnt) := by
      unfold u_X4_makeRoom_h0_1
      rw [r4 _ _ _ l10, n2 _ (by omega) (by omega)]
    have tk2 : f_X4_taskAt r (nI t) (zuI σ2 (r + 5 + 5 * u) 10 (A1 (145 + 20 * u) + nI cnt)) = r + 5 + 5 * t := tk_eq (σ := zuI σ2 (r + 5 + 5 * u) 10 (A1 (145 + 20 * u) + nI cnt)) r3.2.2 ht
    have eh2 : u_X4_makeRoom_h0_2 r N (nI t) (nI w) (nI u) (nI k) (r + 5 + 5 * u) (nI cnt) (nI cnt) σ2 = zuI (zuI σ2 (r + 5 + 5 * u) 10 (A1 (145 + 20 * u) + nI cnt)) (r + 5 + 5 * t) 8 (A (143 + 20 * t) + 1) := by
      unfold u_X4_makeRoom_h0_2
      rw [eh1, tk2, gI_n (by omega), r4 _ _ _ l8, n2 (143 + 20 * t) (by omega) (by omega), g10 (143 + 20 * t) (by omega) (by omega)]
    have C3 : CRel sl al (zuI (zuI σ2 (r + 5 + 5 * u) 10 (A1 (145 + 20 * u) + nI cnt)) (r + 5 + 5 * t) 8 (A (143 + 20 * t) + 1)) r (upd (upd A2 (145 + 20 * u) (A1 (145 + 20 * u) + nI cnt)) (143 + 20 * t) (A (143 + 20 * t) + 1)) := (r4.up l10).up l8
    have S3 : CSt (zuI (zuI σ2 (r + 5 + 5 * u) 10 (A1 (145 + 20 * u) + nI cnt)) (r + 5 + 5 * t) 8 (A (143 + 20 * t) + 1)) r W n := (r3.uI (by omega)).uI (by omega)
    generalize hA3 : upd (upd A2 (145 + 20 * u) (A1 (145 + 20 * u) + nI cnt)) (143 + 20 * t) (A (143 + 20 * t) + 1) = A3 at C3
    have n3 : ∀ i, ¬ i = 145 + 20 * u → ¬ i = 143 + 20 * t → A3 i = A2 i := fun i q1 q2 => by
      rw [← hA3, pk_un q2, pk_un q1]
    have F3 : rfr (sRm r) σ (zuI (zuI σ2 (r + 5 + 5 * u) 10 (A1 (145 + 20 * u) + nI cnt)) (r + 5 + 5 * t) 8 (A (143 + 20 * t) + 1)) := by
      refine rfr.uI (rfr.uI ((g4.wk (fun q j y => ?_)).tr (r5.wk (fun q j y => ?_))) ?_) ?_
      · unfold sAsk at y
        exact Or.inr (Or.inr (Or.inr (Or.inr ⟨t, ht, y.1, by omega⟩)))
      · unfold sW at y
        rcases y with y | y
        · unfold sRm
          omega
        · exact Or.inr (Or.inr (Or.inr (Or.inr ⟨u, hu, y.1, by omega⟩)))
      · exact Or.inr (Or.inr (Or.inr (Or.inr ⟨u, hu, rfl, by omega⟩)))
      · exact Or.inr (Or.inr (Or.inr (Or.inr ⟨t, ht, rfl, by omega⟩)))
    have cells : ∀ q j, (q = r ∧ (j = 10 ∨ j = 11)) ∨ q = r + 3 → (zuI (zuI σ2 (r + 5 + 5 * u) 10 (A1 (145 + 20 * u) + nI cnt)) (r + 5 + 5 * t) 8 (A (143 + 20 * t) + 1)).1 q j = σ.1 q j := fun q j y => by
      rw [gI_n (by omega), gI_n (by omega), r5.2 q j (fun z => by unfold sW at z; omega)]
      exact g4.2 q j (fun z => by unfold sAsk at z; omega)
    have O3 : COf al (zuI (zuI σ2 (r + 5 + 5 * u) 10 (A1 (145 + 20 * u) + nI cnt)) (r + 5 + 5 * t) 8 (A (143 + 20 * t) + 1)) r A3 dT dM T M := by
      refine hO.eq (cells _ _ (by omega)) (cells _ _ (by omega)) (fun j => cells _ _ (by omega)) (fun i hi => ?_)
      rw [n3 _ (by omega) (by omega), n2 _ (by omega) (by omega), g10 _ (by omega) (by omega)]
    obtain ⟨t1, t2, t3, t4, t5⟩ := cl_trap (kd := 0) (t := nI t) (o := nI u) (m := cnt) S3 C3 O3 (by omega)
    have es : s_X4_makeRoom r (nI t) (nI w) N σ = s_X4_noteTrap r 0 (nI t) (nI cnt) (nI u) (zuI (zuI σ2 (r + 5 + 5 * u) 10 (A1 (145 + 20 * u) + nI cnt)) (r + 5 + 5 * t) 8 (A (143 + 20 * t) + 1)) := by
      unfold s_X4_makeRoom
      rw [eO, if_neg c0, eu, cu, tku, kR, tk, g1]
      have eN : l_X4_makeRoom r N N (nI t) (nI w) (nI u) (nI k) (r + 5 + 5 * u) (nI cnt) 0 σ1 = s_X4_noteTrap r 0 (nI t) (nI cnt) (nI u) (zuI (zuI σ2 (r + 5 + 5 * u) 10 (A1 (145 + 20 * u) + nI cnt)) (r + 5 + 5 * t) 8 (A (143 + 20 * t) + 1)) := by
        refine Eq.trans (show _ = _ from r1) ?_
        unfold u_X4_makeRoom_h0_3
        rw [eh2]
      by_cases y : u = t
      · rw [if_pos (congrArg nI y), nI_s1 hR1]
        rw [if_pos y] at hcnt
        have em : (if nI (RS u - 1) < nI k then nI (RS u - 1) else nI k) = nI cnt := by
          rw [← hcnt]
          by_cases y1 : k ≤ RS u - 1
          · rw [if_pos y1, if_neg (nI_nlt y1 (by omega))]
          · rw [if_neg y1, if_pos (nI_lt (by omega) (by omega))]
        rw [em]
        exact eN
      · rw [if_neg (tt_ne hu ht y)]
        rw [if_neg y] at hcnt
        have em : (if nI (RS u) < nI k then nI (RS u) else nI k) = nI cnt := by
          rw [← hcnt]
          by_cases y1 : k ≤ RS u
          · rw [if_pos y1, if_neg (nI_nlt y1 (by omega))]
          · rw [if_neg y1, if_pos (nI_lt (by omega) (by omega))]
        rw [em]
        exact eN
    have qN : q_X4_makeRoom r N N (nI t) (nI w) (nI u) (nI k) (r + 5 + 5 * u) (nI cnt) 0 σ1 := by
      refine r2 ⟨?_, ?_⟩
      · rw [eh1]
        exact tk_p hl (σ := zuI σ2 (r + 5 + 5 * u) 10 (A1 (145 + 20 * u) + nI cnt)) r3.2.2 ht
      · rw [eh2]
        exact t1
    have pc : p_X4_makeRoom r (nI t) (nI w) N σ := by
      refine ⟨at_p (by decide), fun _ => ?_⟩
      rw [eO, eu, cu, tku, kR, tk, g1]
      refine ⟨tk_p hl hs.2.2 ht, tk_p hl g3.2.2 hu, fun y => ?_, fun y => ?_⟩
      · have y : ¬ u = t := fun z => y (congrArg nI z)
        rw [if_neg y] at hcnt
        have em : (if nI (RS u) < nI k then nI (RS u) else nI k) = nI cnt := by
          rw [← hcnt]
          by_cases y1 : k ≤ RS u
          · rw [if_pos y1, if_neg (nI_nlt y1 (by omega))]
          · rw [if_neg y1, if_pos (nI_lt (by omega) (by omega))]
        rw [em]
        exact qN
      · have y : u = t := (nI_eq (by omega) (by omega)).mp y
        rw [if_pos y] at hcnt
        have em : (if nI (RS u) - 1 < nI k then nI (RS u) - 1 else nI k) = nI cnt := by
          rw [nI_s1 hR1, ← hcnt]
          by_cases y1 : k ≤ RS u - 1
          · rw [if_pos y1, if_neg (nI_nlt y1 (by omega))]
          · rw [if_neg y1, if_pos (nI_lt (by omega) (by omega))]
        rw [em]
        exact qN
    -- the reference: the end
    have i9 : (f_X9_atTask (nI u) 9).toNatClampNeg = 145 + 20 * u := by rw [at_9, nI_clamp (by omega)]; omega
    have mh1 : u_X9_makeRoom_h0_1 N (nI t) (nI w) (nI cl) (nI u) (nI cnt) (nI cnt) τ2 = zuI τ2 469 (145 + 20 * u) (A1 (145 + 20 * u) + nI cnt) := by
      unfold u_X9_makeRoom_h0_1
      rw [i9, m3 _ (by omega), pk_un (by omega), n2 _ (by omega) (by omega)]
    have M3 : MRel (zuI τ2 469 (145 + 20 * u) (A1 (145 + 20 * u) + nI cnt)) A3 := by
      rw [← hA3, upd_c (by omega)]
      exact m3.up
    obtain ⟨b1, b2, b3⟩ := rf_trap (N := N) (kd := 0) (t := nI t) (m := nI cnt) (o := nI u) (by omega) M3
    have et : s_X9_makeRoom (nI t) (nI w) (nI cl) N τ = s_X9_tellTrap 0 (nI t) (nI cnt) (nI u) N (zuI τ2 469 (145 + 20 * u) (A1 (145 + 20 * u) + nI cnt)) ∧ (p_X9_makeRoom (nI t) (nI w) (nI cl) N τ) := by
      have eN : l_X9_makeRoom N N (nI t) (nI w) (nI cl) (nI u) (nI cnt) 0 τ1 = s_X9_tellTrap 0 (nI t) (nI cnt) (nI u) N (zuI τ2 469 (145 + 20 * u) (A1 (145 + 20 * u) + nI cnt)) := by
        refine Eq.trans (show _ = _ from m1) ?_
        unfold u_X9_makeRoom_h0_2
        rw [mh1]
      have qN : q_X9_makeRoom N N (nI t) (nI w) (nI cl) (nI u) (nI cnt) 0 τ1 := m2 (by rw [mh1]; exact b1)
      have eR : f_X9_resident (nI u) τ1 = nI (RS u) ∧ p_X9_resident (nI u) τ1 := by
        obtain ⟨-, -, z1, z2, -⟩ := rf_frm g7 hu
        exact ⟨z1.trans wR', z2⟩
      have eOw : τ.1 469 ((12 : Int32) + nI w).toNatClampNeg = nI u := by rw [e12, nI_clamp (by omega), hM _ (by omega), eu]
      unfold s_X9_makeRoom p_X9_makeRoom
      rw [fr1, if_pos rfl, eOw, mu, eR.1, g6, e12]
      have h0 : ∀ x : Int32, x - 0 = x := fun x => by rw [Int32.sub_eq_add_neg]; simp
      rw [h0]
      by_cases y : u = t
      · have := hself y
        have ecl : ¬ nI cl = 0 := by rw [this.1]; decide
        rw [if_neg ecl, if_pos (congrArg nI y)]
        rw [if_pos y] at hcnt
        have em : f_X9_less (nI k) (nI (RS u) - 1) = nI cnt := by
          unfold f_X9_less
          rw [nI_s1 hR1, ← hcnt]
          by_cases y1 : k ≤ RS u - 1
          · rw [if_pos y1]
            by_cases y2 : k = RS u - 1
            · rw [← y2, if_pos (nI_le (Nat.le_refl _) (by omega))]
            · rw [if_neg (nI_ge (by omega) (by omega))]
          · rw [if_neg y1, if_pos (nI_le (by omega) (by omega))]
        rw [em]
        refine ⟨eN, fr2, fun _ => ⟨vp_in_nI (by omega) (by decide), g5, eR.2, fun z => absurd z ecl, fun _ => ⟨fun z => absurd (congrArg nI y) z, fun _ => qN⟩⟩⟩
      · rw [if_neg y] at hcnt
        have em : f_X9_less (nI k) (nI (RS u)) = nI cnt := by
          unfold f_X9_less
          rw [← hcnt]
          by_cases y1 : k ≤ RS u
          · rw [if_pos y1]
            by_cases y2 : k = RS u
            · rw [← y2, if_pos (nI_le (Nat.le_refl _) (by omega))]
            · rw [if_neg (nI_ge (by omega) (by omega))]
          · rw [if_neg y1, if_pos (nI_le (by omega) (by omega))]
        rw [em, if_neg (tt_ne hu ht y)]
        refine ⟨?_, fr2, fun _ => ⟨vp_in_nI (by omega) (by decide), g5, eR.2, fun _ => qN, fun _ => ⟨fun _ => qN, fun z => absurd z (tt_ne hu ht y)⟩⟩⟩
        by_cases z : nI cl = 0
        · rw [if_pos z]
          exact eN
        · rw [if_neg z]
          exact eN
    refine ⟨pc, et.2, aTrap A3 0 (nI t) (nI cnt) (nI u), fu RS u (RS u - cnt), T + 1, M + cnt, ?_⟩
    rw [es, et.1]
    refine ⟨t2, t4, t3, F3.tr (t5.wk (fun q j y => ?_)), b2, (g8.tr m4).tr ((rfr.rf.uI (show sN _ _ from ⟨rfl, by omega⟩)).tr b3), ?_, ?_, by omega, by omega, fun i hi => ?_, fun v => ?_, fun z => ?_⟩
    · unfold sT at y
      unfold sRm
      omega
    · apply wf_trap
      rw [← hA3]
      refine (hWF2.sk ?_).sk ?_
      · unfold wfp
        rintro (y | y | y | ⟨v, y⟩) <;> omega
      · unfold wfp
        rintro (y | y | y | ⟨v, y⟩) <;> omega
    · rw [aTrap_n (by omega), n3 _ (by omega) (by omega)]
      exact free2
    · unfold rmp at hi
      have hi2 : ¬ (i = 1 ∨ i = 2 ∨ i = 11 ∨ (36 ≤ i ∧ i < 136)) ∧ ¬ i = 145 + 20 * u ∧ ¬ i = 143 + 20 * t ∧ ¬ (12 ≤ i ∧ i < 36) ∧ ¬ i = 138 + 20 * u ∧ ¬ i = 141 + 20 * t ∧ ¬ i = 142 + 20 * t := by
        rcases hi with y | y | ⟨v, y⟩ <;> omega
      rw [aTrap_n hi2.1, n3 _ hi2.2.1 hi2.2.2.1, n2 _ hi2.2.2.2.1 hi2.2.2.2.2.1, g10 _ hi2.2.2.2.2.2.1 hi2.2.2.2.2.2.2]
    · by_cases z : v = u
      · rw [z, fu_s]
        omega
      · rw [fu_n z]
        exact Nat.le_refl _
    · by_cases y : t = u
      · rw [y, fu_s]
        have := hc1.2.2.2 y.symm
        have := (hself y.symm).2
        rw [y] at this
        omega
      · rw [fu_n y]
        exact z
