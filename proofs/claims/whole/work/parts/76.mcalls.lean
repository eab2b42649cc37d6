/-! courses: the reference; how the class begins one -/
def ME (τ : zS) (t : Nat) (c : aC) : Prop := (∀ k, 1 ≤ k → k ≤ c.1 → τ.1 469 (238 + 2801 * t + 6 * (k - 1)) = nI (c.2.1 k)) ∧ τ.1 469 (236 + 2801 * t) = nI c.2.2.2.2 ∧ (∀ j, j < c.2.2.2.2 → τ.1 469 (597 + 2801 * t + j) = c.2.2.2.1 j) ∧ ∀ k i, 1 ≤ k → k ≤ c.1 → i < 4 → τ.1 469 (239 + 2801 * t + 6 * (k - 1) + i) = c.2.2.1 k i
theorem ME.top {τ : zS} {t : Nat} {c : aC} (h : ME τ t c) (h1 : 1 ≤ c.1) : MR τ t c.1 (c.2.2.1 c.1) (aTop c) := ⟨h.1 c.1 h1 (Nat.le_refl _), h.2.1, h.2.2.1, fun i hi => h.2.2.2 c.1 i h1 (Nat.le_refl _) hi⟩
theorem ME.mid {τ τ1 : zS} {t : Nat} {c : aC} {s : aR} (h : ME τ t c) (h60 : c.1 ≤ 60) (hr : MR τ1 t c.1 (c.2.2.1 c.1) s) (hf : rfr (sG t c.1) τ τ1) : ME τ1 t (aMid c s) := by
  obtain ⟨r1, r2, r3, r4⟩ := hr
  refine ⟨fun k k1 k2 => ?_, r2, r3, fun k i k1 k2 hi => ?_⟩
  · have k2 : k ≤ c.1 := k2
    show _ = nI (if k = c.1 then s.1 else c.2.1 k)
    by_cases z : k = c.1
    · rw [if_pos z, z]
      exact r1
    · rw [if_neg z, hf.2 _ _ (fun y => by unfold sG sM at y; omega)]
      exact h.1 k k1 k2
  · have k2 : k ≤ c.1 := k2
    rw [hf.2 _ _ (fun y => by unfold sG sM at y; omega)]
    exact h.2.2.2 k i k1 k2 hi
theorem ref_goOn_C {K : aK} {L F B t N : Nat} {H : Nat → Nat} {τ : zS} {c : aC} (hw : wfK K L F H) (ht : t ≤ 4) (hN : 405 < N) (hK : MK τ B K L F) (hF : τ.1 469 (136 + 20 * t + 1) = nI c.1) (hc : ME τ t c) (hty : tyC L H c) : p_X9_goOn (nI t) N τ ∧ rfr (sG t c.1) τ (r_X9_goOn (nI t) N τ).2 ∧ (K.1 (aNext K c).1 = 13 → (r_X9_goOn (nI t) N τ).1 = 0 ∧ ME (r_X9_goOn (nI t) N τ).2 t (aMid c ((aNext K c).1 + 1, (aNext K c).2.1, (aNext K c).2.2 - 1)) ∧ (r_X9_goOn (nI t) N τ).2.1 468 42 = (aNext K c).2.1 ((aNext K c).2.2 - 1)) ∧ (K.1 (aNext K c).1 = 8 → ∃ f, f < F ∧ K.2.1 (aNext K c).1 = nI f ∧ (r_X9_goOn (nI t) N τ).1 = 1 ∧ ME (r_X9_goOn (nI t) N τ).2 t (aMid c ((aNext K c).1 + 1, (aNext K c).2.1, (aNext K c).2.2 - K.2.2.2 f)) ∧ (r_X9_goOn (nI t) N τ).2.1 468 41 = nI f ∧ ∀ i, i < K.2.2.2 f → (r_X9_goOn (nI t) N τ).2.1 492 i = (aNext K c).2.1 ((aNext K c).2.2 - K.2.2.2 f + i)) := by
  obtain ⟨h1, h2, h3, h4⟩ := ty_top hw hty
  have e : f_X9_frames (nI t) τ = nI c.1 := by
    unfold f_X9_frames
    rw [at_1, nI_clamp (by omega), hF]
  have pe : p_X9_frames (nI t) τ := by
    unfold p_X9_frames
    rw [at_1]
    exact vp_in_nI (by omega) (by decide)
  obtain ⟨r1, r2, r3, r4⟩ := ref_go (N := N) (v := c.2.2.1 c.1) hw h1 hty.1 ht 400 (aTop c) τ h2 (by have := hw.1; omega) hK (hc.top hty.1.1) N (by omega)
  unfold p_X9_goOn r_X9_goOn
  rw [e]
  refine ⟨⟨pe, r1⟩, r4, fun z => ?_, fun z => ?_⟩
  · obtain ⟨a1, a2, a3⟩ := r2 z
    exact ⟨a1, hc.mid hty.1.2 a2 r4, a3⟩
  · obtain ⟨f, f1, f2, a1, a2, a3, a4⟩ := r3 z
    exact ⟨f, f1, f2, a1, hc.mid hty.1.2 a2 r4, a3, a4⟩
def sE (t n : Nat) (q j : Nat) : Prop := q = 469 ∧ (j = 136 + 20 * t + 1 ∨ (237 + 2801 * t + 6 * n ≤ j ∧ j < 243 + 2801 * t + 6 * n))
theorem ref_vals {B t n f T N : Nat} {g : Nat → Int32} (ht : t ≤ 4) (hn : n < 60) (hB : B < 2) (hf : f < 6) (hT : T ≤ 4) : ∀ (m k : Nat) (τ : zS), k + m = 4 → τ.1 468 16 = nI B → τ.1 481 (6 * B + f) = nI T → (∀ i, i < T → τ.1 492 i = g i) → ∀ z, m < z → q_X9_enter N z (nI t) (nI f) (nI (n + 1)) (nI k) τ ∧ (∀ i, k ≤ i → i < 4 → (l_X9_enter N z (nI t) (nI f) (nI (n + 1)) (nI k) τ).1 469 (239 + 2801 * t + 6 * n + i) = if i < T then g i else 0) ∧ (∀ q j, ¬ (q = 469 ∧ 239 + 2801 * t + 6 * n + k ≤ j ∧ j < 243 + 2801 * t + 6 * n) → (l_X9_enter N z (nI t) (nI f) (nI (n + 1)) (nI k) τ).1 q j = τ.1 q j) ∧ (l_X9_enter N z (nI t) (nI f) (nI (n + 1)) (nI k) τ).2 = τ.2 := by
  intro m
  induction m with
  | zero =>
    intro k τ hk _ _ _ z hz
    obtain ⟨z, rfl⟩ : ∃ y, z = y + 1 := ⟨z - 1, by omega⟩
    have c : (4 : Int32) ≤ nI k := nI_le (a := 4) (by omega) (by omega)
    rw [q_X9_enter, l_X9_enter, if_pos c]
    exact ⟨fun y => absurd c y, fun i h1 h2 => absurd h1 (by omega), fun _ _ _ => rfl, rfl⟩
  | succ m ih =>
    intro k τ hk b1 b2 b3 z hz
    obtain ⟨z, rfl⟩ : ∃ y, z = y + 1 := ⟨z - 1, by omega⟩
    have c : ¬ (4 : Int32) ≤ nI k := nI_ge (b := 4) (by omega) (by decide)
    have e6 : (6 * τ.1 468 16) + nI f = nI (6 * B + f) := by rw [b1, (show (6 : Int32) = nI 6 from rfl), pk_mul, nI_add]
    have eF : f_X9_atFrame (nI t) (nI (n + 1)) (2 + nI k) = nI (239 + 2801 * t + 6 * n + k) := by
      rw [fr_v (by omega), Nat.add_sub_cancel]
    have pF : vp_in (nI (239 + 2801 * t + 6 * n + k)) 14241 := vp_in_nI (by omega) (by decide)
    rw [q_X9_enter, l_X9_enter, if_neg c]
    unfold u_X9_enter_h0_1 u_X9_enter_h0_2
    rw [e6, eF, nI_clamp (by omega), b2, nI_clamp (by omega), nI_clamp (by omega), nI_1]
    by_cases ck : T ≤ k
    · have c1 : nI T ≤ nI k := nI_le ck (by omega)
      rw [if_pos c1]
      obtain ⟨r1, r2, r3, r4⟩ := ih (k + 1) (zuI τ 469 (239 + 2801 * t + 6 * n + k) 0) (by omega) (by rw [gI_n (by omega)]; exact b1) (by rw [gI_n (by omega)]; exact b2) (fun i hi => by rw [gI_n (by omega)]; exact b3 i hi) z (by omega)
      refine ⟨fun _ => ⟨vp_in_nI (by omega) (by decide), fun _ => ⟨pF, r1⟩, fun y => absurd c1 y⟩, fun i h1 h2 => ?_, fun q j hq => ?_, r4⟩
      · by_cases z : i = k
        · rw [z, r3 _ _ (by omega), gI_h rfl rfl, if_neg (by omega)]
        · exact r2 i (by omega) h2
      · rw [r3 _ _ (by omega), gI_n (by omega)]
    · have c1 : ¬ nI T ≤ nI k := nI_ge (by omega) (by omega)
      rw [if_neg c1]
      obtain ⟨r1, r2, r3, r4⟩ := ih (k + 1) (zuI τ 469 (239 + 2801 * t + 6 * n + k) (τ.1 492 k)) (by omega) (by rw [gI_n (by omega)]; exact b1) (by rw [gI_n (by omega)]; exact b2) (fun i hi => by rw [gI_n (by omega)]; exact b3 i hi) z (by omega)
      refine ⟨fun _ => ⟨vp_in_nI (by omega) (by decide), fun y => absurd y c1, fun _ => ⟨vp_in_nI (by omega) (by decide), pF, r1⟩⟩, fun i h1 h2 => ?_, fun q j hq => ?_, r4⟩
      · by_cases z : i = k
        · rw [z, r3 _ _ (by omega), gI_h rfl rfl, if_pos (by omega)]
          exact b3 k (by omega)
        · exact r2 i (by omega) h2
      · rw [r3 _ _ (by omega), gI_n (by omega)]
theorem ref_enter {K : aK} {L F B t n f N : Nat} {H : Nat → Nat} {τ : zS} {g : Nat → Int32} (hw : wfK K L F H) (ht : t ≤ 4) (hn : n < 60) (hN : 405 < N) (hK : MK τ B K L F) (hf : f < F) (hF : τ.1 469 (136 + 20 * t + 1) = nI n) (hg : ∀ i, i < K.2.2.2 f → τ.1 492 i = g i) : p_X9_enter (nI t) (nI f) N τ ∧ (s_X9_enter (nI t) (nI f) N τ).1 469 (136 + 20 * t + 1) = nI (n + 1) ∧ (s_X9_enter (nI t) (nI f) N τ).1 469 (238 + 2801 * t + 6 * n) = nI (K.2.2.1 f) ∧ (∀ i, i < 4 → (s_X9_enter (nI t) (nI f) N τ).1 469 (239 + 2801 * t + 6 * n + i) = if i < K.2.2.2 f then g i else 0) ∧ rfr (sE t n) τ (s_X9_enter (nI t) (nI f) N τ) := by
  obtain ⟨B2, k1, k2, k3⟩ := hK
  obtain ⟨hL, hF6, w3, w4⟩ := hw
  have hT := (w3 f hf).2.2
  have e1 : u_X9_enter_1 (nI t) (nI f) N τ = zuI τ 469 (136 + 20 * t + 1) (nI (n + 1)) := by
    unfold u_X9_enter_1
    rw [at_1, nI_clamp (by omega), hF, nI_1]
  have ef : f_X9_frames (nI t) (zuI τ 469 (136 + 20 * t + 1) (nI (n + 1))) = nI (n + 1) := by
    unfold f_X9_frames
    rw [at_1, nI_clamp (by omega), gI_h rfl rfl]
  have a0 : f_X9_atFrame (nI t) (nI (n + 1)) 0 = nI (237 + 2801 * t + 6 * n) := by rw [fr_0 (by omega), Nat.add_sub_cancel]
  have a1 : f_X9_atFrame (nI t) (nI (n + 1)) 1 = nI (238 + 2801 * t + 6 * n) := by rw [fr_1 (by omega), Nat.add_sub_cancel]
  have e2 : u_X9_enter_2 (nI t) (nI f) N τ = zuI (zuI τ 469 (136 + 20 * t + 1) (nI (n + 1))) 469 (237 + 2801 * t + 6 * n) (nI f) := by
    unfold u_X9_enter_2
    rw [e1, ef, a0, nI_clamp (by omega)]
  have e6 : (6 * nI B) + nI f = nI (6 * B + f) := by rw [(show (6 : Int32) = nI 6 from rfl), pk_mul, nI_add]
  have eb : (zuI (zuI τ 469 (136 + 20 * t + 1) (nI (n + 1))) 469 (237 + 2801 * t + 6 * n) (nI f)).1 468 16 = nI B := by
    rw [gI_n (by omega), gI_n (by omega)]
    exact k1
  have e3 : u_X9_enter_3 (nI t) (nI f) N τ = zuI (zuI (zuI τ 469 (136 + 20 * t + 1) (nI (n + 1))) 469 (237 + 2801 * t + 6 * n) (nI f)) 469 (238 + 2801 * t + 6 * n) (nI (K.2.2.1 f)) := by
    unfold u_X9_enter_3
    rw [e2, e1, ef, a1, nI_clamp (by omega), eb, e6, nI_clamp (by omega), gI_n (by omega), gI_n (by omega), (k3 f hf).1]
  obtain ⟨r1, r2, r3, r4⟩ := ref_vals (B := B) (t := t) (n := n) (f := f) (T := K.2.2.2 f) (N := N) (g := g) ht hn B2 (by omega) hT 4 0 (zuI (zuI (zuI τ 469 (136 + 20 * t + 1) (nI (n + 1))) 469 (237 + 2801 * t + 6 * n) (nI f)) 469 (238 + 2801 * t + 6 * n) (nI (K.2.2.1 f))) rfl (by rw [gI_n (by omega)]; exact eb) (by rw [gI_n (by omega), gI_n (by omega), gI_n (by omega)]; exact (k3 f hf).2) (fun i hi => by rw [gI_n (by omega), gI_n (by omega), gI_n (by omega)]; exact hg i hi) N (by omega)
  have es : s_X9_enter (nI t) (nI f) N τ = l_X9_enter N N (nI t) (nI f) (nI (n + 1)) (nI 0) (zuI (zuI (zuI τ 469 (136 + 20 * t + 1) (nI (n + 1))) 469 (237 + 2801 * t + 6 * n) (nI f)) 469 (238 + 2801 * t + 6 * n) (nI (K.2.2.1 f))) := by
    unfold s_X9_enter
    rw [e3, e1, ef]
    rfl
  rw [es]
  refine ⟨?_, ?_, ?_, fun i hi => r2 i (Nat.zero_le _) hi, r4, fun q j hq => ?_⟩
  · unfold p_X9_enter
    rw [e3, e2, e1, ef, a0, a1, eb, e6]
    refine ⟨?_, ?_, vp_in_nI (by omega) (by decide), vp_in_nI (by omega) (by decide), vp_in_nI (by omega) (by decide), r1⟩
    · rw [at_1]
      exact vp_in_nI (by omega) (by decide)
    · unfold p_X9_frames
      rw [at_1]
      exact vp_in_nI (by omega) (by decide)
  · rw [r3 _ _ (by omega), gI_n (by omega), gI_n (by omega), gI_h rfl rfl]
  · rw [r3 _ _ (by omega), gI_h rfl rfl]
  · unfold sE at hq
    rw [r3 _ _ (by omega), gI_n (by omega), gI_n (by omega), gI_n (by omega)]
theorem ref_enter_C {K : aK} {L F B t f N : Nat} {H : Nat → Nat} {τ : zS} {c : aC} {s : aR} (hw : wfK K L F H) (ht : t ≤ 4) (h1 : 1 ≤ c.1) (hn : c.1 < 60) (hN : 405 < N) (hK : MK τ B K L F) (hf : f < F) (hF : τ.1 469 (136 + 20 * t + 1) = nI c.1) (hc : ME τ t (aMid c (s.1 + 1, s.2.1, s.2.2 - K.2.2.2 f))) (hh : s.2.2 ≤ 2440) (hg : ∀ i, i < K.2.2.2 f → τ.1 492 i = s.2.1 (s.2.2 - K.2.2.2 f + i)) : p_X9_enter (nI t) (nI f) N τ ∧ (s_X9_enter (nI t) (nI f) N τ).1 469 (136 + 20 * t + 1) = nI (c.1 + 1) ∧ ME (s_X9_enter (nI t) (nI f) N τ) t (aEnter K c s f) ∧ rfr (sE t c.1) τ (s_X9_enter (nI t) (nI f) N τ) := by
  obtain ⟨r1, r2, r3, r4, r5⟩ := ref_enter hw ht hn hN hK hf hF hg
  refine ⟨r1, r2, ⟨fun k k1 k2 => ?_, ?_, fun j hj => ?_, fun k i k1 k2 hi => ?_⟩, r5⟩
  · have k2 : k ≤ c.1 + 1 := k2
    show _ = nI (if k = c.1 + 1 then K.2.2.1 f else if k = c.1 then s.1 + 1 else c.2.1 k)
    by_cases z : k = c.1 + 1
    · rw [if_pos z, z, Nat.add_sub_cancel]
      exact r3
    · rw [if_neg z, r5.2 _ _ (fun y => by unfold sE at y; omega)]
      exact hc.1 k k1 (show k ≤ c.1 by omega)
  · rw [r5.2 _ _ (fun y => by unfold sE at y; omega)]
    exact hc.2.1
  · have hj : j < s.2.2 - K.2.2.2 f := hj
    rw [r5.2 _ _ (fun y => by unfold sE at y; omega)]
    exact hc.2.2.1 j hj
  · have k2 : k ≤ c.1 + 1 := k2
    show _ = if k = c.1 + 1 then (if i < K.2.2.2 f then s.2.1 (s.2.2 - K.2.2.2 f + i) else 0) else c.2.2.1 k i
    by_cases z : k = c.1 + 1
    · rw [if_pos z, z, Nat.add_sub_cancel]
      exact r4 i hi
    · rw [if_neg z, r5.2 _ _ (fun y => by unfold sE at y; omega)]
      exact hc.2.2.2 k i k1 (show k ≤ c.1 by omega) hi
theorem ref_begin_C {K : aK} {L F B t f N : Nat} {H : Nat → Nat} {τ : zS} {g : Nat → Int32} (hw : wfK K L F H) (ht : t ≤ 4) (hN : 405 < N) (hK : MK τ B K L F) (hf : f < F) (hF : τ.1 469 (136 + 20 * t + 1) = 0) (hl : τ.1 469 (236 + 2801 * t) = 0) (hg : ∀ i, i < K.2.2.2 f → τ.1 492 i = g i) : p_X9_enter (nI t) (nI f) N τ ∧ (s_X9_enter (nI t) (nI f) N τ).1 469 (136 + 20 * t + 1) = nI 1 ∧ ME (s_X9_enter (nI t) (nI f) N τ) t (aBegin K f g) ∧ rfr (sE t 0) τ (s_X9_enter (nI t) (nI f) N τ) := by
  obtain ⟨r1, r2, r3, r4, r5⟩ := ref_enter (n := 0) hw ht (by decide) hN hK hf hF hg
  refine ⟨r1, r2, ⟨fun k k1 k2 => ?_, ?_, fun j hj => absurd (show j < 0 from hj) (by omega), fun k i k1 k2 hi => ?_⟩, r5⟩
  · have k2 : k ≤ 1 := k2
    rw [show k = 1 by omega]
    exact r3
  · rw [r5.2 _ _ (fun y => by unfold sE at y; omega)]
    exact hl
  · have k2 : k ≤ 1 := k2
    rw [show k = 1 by omega]
    exact r4 i hi
theorem ref_back_C {t : Nat} {τ : zS} {c : aC} {s : aR} (ht : t ≤ 4) (h2 : 2 ≤ c.1) (h60 : c.1 ≤ 60) (hh : 1 ≤ s.2.2 ∧ s.2.2 ≤ 2440) (hc : ME τ t (aMid c (s.1 + 1, s.2.1, s.2.2 - 1))) : p_X9_put (nI t) (s.2.1 (s.2.2 - 1)) τ ∧ ME (s_X9_put (nI t) (s.2.1 (s.2.2 - 1)) τ) t (aLeave c s) ∧ rfr (sM t (c.1 - 1)) τ (s_X9_put (nI t) (s.2.1 (s.2.2 - 1)) τ) := by
  have hm : MR τ t (c.1 - 1) (c.2.2.1 (c.1 - 1)) (c.2.1 (c.1 - 1), s.2.1, s.2.2 - 1) := by
    refine ⟨?_, hc.2.1, hc.2.2.1, fun i hi => hc.2.2.2 (c.1 - 1) i (by omega) (show c.1 - 1 ≤ c.1 by omega) hi⟩
    rw [hc.1 (c.1 - 1) (by omega) (show c.1 - 1 ≤ c.1 by omega)]
    exact congrArg nI (if_neg (show ¬ c.1 - 1 = c.1 by omega))
  obtain ⟨r1, ⟨m1, m2, m3, m4⟩, r3⟩ := mr_put (x := s.2.1 (s.2.2 - 1)) ht ⟨by omega, by omega⟩ hm (show s.2.2 - 1 < 2440 by omega)
  refine ⟨r1, ⟨fun k k1 k2 => ?_, ?_, fun j hj => ?_, fun k i k1 k2 hi => ?_⟩, r3⟩
  · have k2 : k ≤ c.1 - 1 := k2
    by_cases z : k = c.1 - 1
    · rw [z]
      exact m1
    · rw [r3.2 _ _ (fun y => by unfold sM at y; omega), hc.1 k k1 (show k ≤ c.1 by omega)]
      exact congrArg nI (if_neg (show ¬ k = c.1 by omega))
  · show _ = nI (if c.1 = 1 then s.2.2 - 1 else s.2.2)
    rw [if_neg (by omega), m2]
    exact congrArg nI (show s.2.2 - 1 + 1 = s.2.2 by omega)
  · have hj : j < (if c.1 = 1 then s.2.2 - 1 else s.2.2) := hj
    rw [if_neg (by omega)] at hj
    rw [m3 j (show j < s.2.2 - 1 + 1 by omega)]
    show upd s.2.1 (s.2.2 - 1) (s.2.1 (s.2.2 - 1)) j = s.2.1 j
    by_cases z : j = s.2.2 - 1
    · rw [z, pk_us]
    · rw [pk_un z]
  · have k2 : k ≤ c.1 - 1 := k2
    rw [r3.2 _ _ (fun y => by unfold sM at y; omega)]
    exact hc.2.2.2 k i k1 (show k ≤ c.1 by omega) hi
/-! the class begins -/
theorem cls_vals {a q1 n3 q3 N T fr : Nat} {v2 : Int32} {g : Nat → Int32} (h3 : fr + 4 ≤ n3) (h31 : n3 < 2 ^ 31) (hT : T ≤ 4) (hq3 : q3 < a ∨ a + 4 ≤ q3) (hq : q1 + 7 ≤ a ∨ a + 4 ≤ q1) : ∀ (m k : Nat) (σ : zS), k + m = 4 → f_X8_at 6 (q1 + 2) v2 σ = nI T → (∀ i, i < T → σ.1 q3 (fr + i) = g i) → ∀ z, m < z → q_X0_begin a q1 n3 q3 N z v2 (nI fr) (nI k) σ ∧ (∀ i, k ≤ i → i < 4 → (l_X0_begin a q1 n3 q3 N z v2 (nI fr) (nI k) σ).1 (a + 1) i = if i < T then g i else 0) ∧ (∀ q j, ¬ (q = a + 1 ∧ k ≤ j ∧ j < 4) → (l_X0_begin a q1 n3 q3 N z v2 (nI fr) (nI k) σ).1 q j = σ.1 q j) ∧ (l_X0_begin a q1 n3 q3 N z v2 (nI fr) (nI k) σ).2 = σ.2 := by
  intro m
  induction m with
  | zero =>
    intro k σ hk _ _ z hz
    obtain ⟨z, rfl⟩ : ∃ y, z = y + 1 := ⟨z - 1, by omega⟩
    have c : (4 : Int32) ≤ nI k := nI_le (a := 4) (by omega) (by omega)
    rw [q_X0_begin, l_X0_begin, if_pos c]
    exact ⟨fun y => absurd c y, fun i h1 h2 => absurd h1 (by omega), fun _ _ _ => rfl, rfl⟩
  | succ m ih =>
    intro k σ hk b2 b3 z hz
    obtain ⟨z, rfl⟩ : ∃ y, z = y + 1 := ⟨z - 1, by omega⟩
    have c : ¬ (4 : Int32) ≤ nI k := nI_ge (b := 4) (by omega) (by decide)
    have at2 : ∀ j x, f_X8_at 6 (q1 + 2) v2 (zuI σ (a + 1) j x) = nI T := fun j x => by
      rw [← b2]
      unfold f_X8_at
      rw [gI_n (by omega)]
    rw [q_X0_begin, l_X0_begin, if_neg c]
    unfold u_X0_begin_h0_1 u_X0_begin_h0_2
    rw [b2, put_i (by omega) (by decide), put_i (by omega) (by decide), nI_add, at_i (by omega) h31, nI_1]
    by_cases ck : T ≤ k
    · have c1 : nI T ≤ nI k := nI_le ck (by omega)
      rw [if_pos c1]
      obtain ⟨r1, r2, r3, r4⟩ := ih (k + 1) (zuI σ (a + 1) k 0) (by omega) (at2 _ _) (fun i hi => by rw [gI_n (by omega)]; exact b3 i hi) z (by omega)
      refine ⟨fun _ => ⟨at_p (by decide), fun _ => ⟨put_p (by decide), r1⟩, fun y => absurd c1 y⟩, fun i h1 h2 => ?_, fun q j hq => ?_, r4⟩
      · by_cases z : i = k
        · rw [z, r3 _ _ (by omega), gI_h rfl rfl, if_neg (by omega)]
        · exact r2 i (by omega) h2
      · rw [r3 _ _ (by omega), gI_n (by omega)]
    · have c1 : ¬ nI T ≤ nI k := nI_ge (by omega) (by omega)
      rw [if_neg c1]
      obtain ⟨r1, r2, r3, r4⟩ := ih (k + 1) (zuI σ (a + 1) k (σ.1 q3 (fr + k))) (by omega) (at2 _ _) (fun i hi => by rw [gI_n (by omega)]; exact b3 i hi) z (by omega)
      refine ⟨fun _ => ⟨at_p (by decide), fun y => absurd y c1, fun _ => ⟨at_p h31, put_p (by decide), r1⟩⟩, fun i h1 h2 => ?_, fun q j hq => ?_, r4⟩
      · by_cases z : i = k
        · rw [z, r3 _ _ (by omega), gI_h rfl rfl, if_pos (by omega)]
          exact b3 k (by omega)
        · exact r2 i (by omega) h2
      · rw [r3 _ _ (by omega), gI_n (by omega)]
theorem cls_begin_C {K : aK} {L F a q1 n3 q3 N f fr : Nat} {H : Nat → Nat} {σ : zS} {g : Nat → Int32} (hw : wfK K L F H) (hq : q1 + 7 ≤ a ∨ a + 4 ≤ q1) (hq3 : q3 < a ∨ a + 4 ≤ q3) (h3 : fr + 4 ≤ n3) (h31 : n3 < 2 ^ 31) (hN : 400 < N) (hC : CK σ q1 K L F) (hf : f < F) (hg : ∀ i, i < K.2.2.2 f → σ.1 q3 (fr + i) = g i) : p_X0_begin a q1 (nI f) n3 q3 (nI fr) N σ ∧ CC (s_X0_begin a q1 (nI f) n3 q3 (nI fr) N σ) a (aBegin K f g) ∧ rfr (sA a) σ (s_X0_begin a q1 (nI f) n3 q3 (nI fr) N σ) ∧ (s_X0_begin a q1 (nI f) n3 q3 (nI fr) N σ).1 a 3 = 0 := by
  obtain ⟨k1, k2⟩ := hC
  have hF := hw.2.1
  have hT := (hw.2.2.1 f hf).2.2
  have e : u_X0_begin_4 a q1 (nI f) n3 q3 (nI fr) N σ = zuI (zuI (zuI (zuI σ a 0 (nI 1)) a 1 (nI (K.2.2.1 f))) a 2 0) a 3 0 := by
    unfold u_X0_begin_4 u_X0_begin_3 u_X0_begin_2 u_X0_begin_1
    rw [at_i (by omega) (by decide), gI_n (by omega), (k2 f hf).1]
    rfl
  have e2 : f_X8_at 6 (q1 + 2) (nI f) (zuI (zuI (zuI (zuI σ a 0 (nI 1)) a 1 (nI (K.2.2.1 f))) a 2 0) a 3 0) = nI (K.2.2.2 f) := by
    rw [at_i (by omega) (by decide), gI_n (by omega), gI_n (by omega), gI_n (by omega), gI_n (by omega), (k2 f hf).2]
  obtain ⟨r1, r2, r3, r4⟩ := cls_vals (a := a) (q1 := q1) (n3 := n3) (q3 := q3) (N := N) (T := K.2.2.2 f) (fr := fr) (v2 := nI f) (g := g) h3 h31 hT hq3 hq 4 0 (zuI (zuI (zuI (zuI σ a 0 (nI 1)) a 1 (nI (K.2.2.1 f))) a 2 0) a 3 0) rfl e2 (fun i hi => by rw [gI_n (by omega), gI_n (by omega), gI_n (by omega), gI_n (by omega)]; exact hg i hi) N (by omega)
  have es : s_X0_begin a q1 (nI f) n3 q3 (nI fr) N σ = l_X0_begin a q1 n3 q3 N N (nI f) (nI fr) (nI 0) (zuI (zuI (zuI (zuI σ a 0 (nI 1)) a 1 (nI (K.2.2.1 f))) a 2 0) a 3 0) := by
    unfold s_X0_begin
    rw [e]
    rfl
  rw [es]
  refine ⟨?_, ⟨?_, fun _ => ?_, ?_, fun j hj => absurd (show j < 0 from hj) (by omega), fun k i j1 j2 hi => ?_, fun k j1 j2 => absurd (show k < 1 from j2) (by omega)⟩, ⟨r4, fun q j hq => ?_⟩, ?_⟩
  · unfold p_X0_begin
    rw [e]
    exact ⟨at_p (by decide), r1⟩
  · rw [r3 _ _ (by omega), gI_n (by omega), gI_n (by omega), gI_n (by omega), gI_h rfl rfl]
    rfl
  · rw [r3 _ _ (by omega), gI_n (by omega), gI_n (by omega), gI_h rfl rfl]
    rfl
  · rw [r3 _ _ (by omega), gI_n (by omega), gI_h rfl rfl]
    rfl
  · have j2 : k ≤ 1 := j2
    rw [show k = 1 by omega, show (1 - 1) * 4 + i = i by omega]
    exact r2 i (Nat.zero_le _) hi
  · unfold sA at hq
    rw [r3 _ _ (by omega), gI_n (by omega), gI_n (by omega), gI_n (by omega), gI_n (by omega)]
  · rw [r3 _ _ (by omega), gI_h rfl rfl]
