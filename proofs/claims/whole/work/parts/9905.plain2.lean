/-! plain runs of both sides, whole -/
theorem rf_dm {N : Nat} {x : Int32} : ∀ (m k : Nat) (τ : zS), k + m = 61 → ∀ z y, z = y + m + 1 → ∃ τ1, l_X9_goPlain N z 0 x (nI k) τ = l_X9_goPlain N (y + 1) 0 x (nI 61) τ1 ∧ (q_X9_goPlain N (y + 1) 0 x (nI 61) τ1 → q_X9_goPlain N z 0 x (nI k) τ) ∧ (∀ i, k ≤ i → i < 61 → τ1.1 493 i = 0) ∧ (∀ q j, ¬ (q = 493 ∧ k ≤ j) → τ1.1 q j = τ.1 q j) ∧ τ1.2 = τ.2 := by
  intro m
  induction m with
  | zero =>
    intro k τ hk z y hz
    subst hz
    obtain rfl : k = 61 := by omega
    exact ⟨τ, rfl, fun h => h, fun i h1 h2 => absurd h1 (by omega), fun _ _ _ => rfl, rfl⟩
  | succ m ih =>
    intro k τ hk z y hz
    subst hz
    have c : ¬ (60 : Int32) < nI k := nI_nlt (a := 60) (by omega) (by decide)
    have eu : u_X9_goPlain_h0_7 N x (nI k) τ = zuI τ 493 k 0 := by
      unfold u_X9_goPlain_h0_7
      rw [nI_clamp (by omega)]
    rw [show y + (m + 1) + 1 = (y + m + 1) + 1 by omega, l_X9_goPlain, q_X9_goPlain, if_neg c, eu, nI_1]
    obtain ⟨τ1, i1, i2, i3, i4, i5⟩ := ih (k + 1) (zuI τ 493 k 0) (by omega) (y + m + 1) y rfl
    refine ⟨τ1, i1, fun h => ⟨fun z => absurd z c, fun _ => ⟨vp_in_nI (by omega) (by decide), i2 h⟩⟩, fun i h1 h2 => ?_, fun q j h => ?_, i5⟩
    · by_cases e : i = k
      · subst e
        rw [i4 _ _ (by omega), gI_h rfl rfl]
      · exact i3 i (by omega) h2
    · rw [i4 q j (by omega), gI_n (by omega)]
theorem dp_0 {K : aK} {f : Nat} {g : Nat → Int32} : dp K (aBegin K f g) 0 = 1 := rfl
theorem rf_go {K : aK} {L F B N f : Nat} {H : Nat → Nat} {g : Nat → Int32} {τ : zS} (hw : wfK K L F H) (hN : 8000 < N) (hK : MK τ B K L F) (hf : f < F) (hg : ∀ i, i < K.2.2.2 f → τ.1 492 i = g i) : p_X9_goPlain (nI f) N τ ∧ rfr sPl τ (r_X9_goPlain (nI f) N τ).2 ∧ (((r_X9_goPlain (nI f) N τ).1 = 1 ∧ ∃ k', 1 + k' ≤ 2000 ∧ (∀ i, i < k' → 1 ≤ dp K (aBegin K f g) i ∧ dp K (aBegin K f g) i ≤ 60) ∧ dp K (aBegin K f g) k' = 0 ∧ CPo K L F H (aBegin K f g) (nI f) B k' (r_X9_goPlain (nI f) N τ).2 ∧ (r_X9_goPlain (nI f) N τ).2.1 468 48 = (r_X9_goPlain (nI f) N τ).2.1 468 42) ∨ ((r_X9_goPlain (nI f) N τ).1 = 0 ∧ ∀ k', 1 + k' ≤ 2000 → (∀ i, i < k' → 1 ≤ dp K (aBegin K f g) i ∧ dp K (aBegin K f g) i ≤ 60) → ¬ dp K (aBegin K f g) k' = 0)) := by
  obtain ⟨c1, c2, c3, c4, c5, c6⟩ := rw_clear (N := N) (t := 4) (τ := τ) (by omega) (by omega)
  have ec : u_X9_goPlain_1 (nI f) N τ = s_X9_clearTask (nI 4) N τ := rfl
  generalize s_X9_clearTask (nI 4) N τ = τ1 at c2 c3 c4 c5 c6 ec
  obtain ⟨w, hw1⟩ : ∃ w, N = w + 62 := ⟨N - 62, by omega⟩
  obtain ⟨τ2, d1, d2, d3, d4, d5⟩ := rf_dm (N := N) (x := nI f) 61 0 τ1 rfl N w (by omega)
  -- what is set ahead of the run
  have e5 : u_X9_goPlain_h0_5 N (nI f) (nI 61) τ2 = zuI (zuI (zuI (zuI (zuI τ2 468 45 1) 468 46 1) 468 47 0) 493 1 1) 494 0 1 := by
    unfold u_X9_goPlain_h0_5 u_X9_goPlain_h0_4 u_X9_goPlain_h0_3 u_X9_goPlain_h0_2 u_X9_goPlain_h0_1
    rw [nar1]
  have o2 : ∀ q j, ¬ q = 493 → ¬ (q = 469 ∧ ((216 ≤ j ∧ j < 236) ∨ j = 11440)) → τ2.1 q j = τ.1 q j := fun q j h1 h2 => by rw [d4 _ _ (by omega), c5 _ _ (by omega)]
  have o3 : ∀ q j, ¬ (q = 468 ∧ (j = 45 ∨ j = 46 ∨ j = 47)) → ¬ (q = 493 ∧ j = 1) → ¬ (q = 494 ∧ j = 0) → (zuI (zuI (zuI (zuI (zuI τ2 468 45 1) 468 46 1) 468 47 0) 493 1 1) 494 0 1).1 q j = τ2.1 q j := fun q j h1 h2 h3 => by rw [gI_n (by omega), gI_n (by omega), gI_n (by omega), gI_n (by omega), gI_n (by omega)]
  have k45 : (zuI (zuI (zuI (zuI (zuI τ2 468 45 1) 468 46 1) 468 47 0) 493 1 1) 494 0 1).1 468 45 = 1 := by simp (disch := omega) only [gI_n, gI_h]
  have k46 : (zuI (zuI (zuI (zuI (zuI τ2 468 45 1) 468 46 1) 468 47 0) 493 1 1) 494 0 1).1 468 46 = 1 := by simp (disch := omega) only [gI_n, gI_h]
  have k47 : (zuI (zuI (zuI (zuI (zuI τ2 468 45 1) 468 46 1) 468 47 0) 493 1 1) 494 0 1).1 468 47 = 0 := by simp (disch := omega) only [gI_n, gI_h]
  have k493 : (zuI (zuI (zuI (zuI (zuI τ2 468 45 1) 468 46 1) 468 47 0) 493 1 1) 494 0 1).1 493 1 = 1 := by simp (disch := omega) only [gI_n, gI_h]
  have k494 : (zuI (zuI (zuI (zuI (zuI τ2 468 45 1) 468 46 1) 468 47 0) 493 1 1) 494 0 1).1 494 0 = 1 := gI_h rfl rfl
  have f3 : rfr sPl τ (zuI (zuI (zuI (zuI (zuI τ2 468 45 1) 468 46 1) 468 47 0) 493 1 1) 494 0 1) := by
    refine ⟨(d5.trans c6), fun q j z => ?_⟩
    have z1 : ¬ ((q = 469 ∧ ((216 ≤ j ∧ j < 236) ∨ 11440 ≤ j)) ∨ q = 492 ∨ q = 493 ∨ q = 494 ∨ (q = 468 ∧ 41 ≤ j ∧ j ≤ 48)) := z
    rw [o3 _ _ (by omega) (by omega) (by omega), o2 _ _ (by omega) (by omega)]
  generalize hτ3 : zuI (zuI (zuI (zuI (zuI τ2 468 45 1) 468 46 1) 468 47 0) 493 1 1) 494 0 1 = τ3 at e5 o3 k45 k46 k47 k493 k494 f3
  have K3 : MK τ3 B K L F := hK.fr f3 (fun q j z => by unfold sPl at z; omega)
  have z217 : τ3.1 469 (136 + 20 * 4 + 1) = 0 := by
    rw [o3 _ _ (by omega) (by omega) (by omega), d4 _ _ (by omega)]
    exact c2 1 (by omega) (by omega)
  have zl : τ3.1 469 (236 + 2801 * 4) = 0 := by
    rw [o3 _ _ (by omega) (by omega) (by omega), d4 _ _ (by omega)]
    exact c4
  have hF6 := hw.2.1
  have h4 := (hw.2.2.1 f hf).2.2
  obtain ⟨b1, b2, b3, b4⟩ := ref_begin_C (t := 4) (N := N) hw (by omega) (show 405 < N by omega) K3 hf z217 zl (fun i hi => by
    have : τ3.1 492 i = τ.1 492 i := by rw [o3 _ _ (by omega) (by omega) (by omega), o2 _ _ (by omega) (by omega)]
    exact this.trans (hg i hi))
  have e6 : u_X9_goPlain_h0_6 N (nI f) (nI 61) τ2 = s_X9_enter (nI 4) (nI f) N τ3 := by
    unfold u_X9_goPlain_h0_6
    rw [e5]
    rfl
  generalize hτ4 : s_X9_enter (nI 4) (nI f) N τ3 = τ4 at b2 b3 b4 e6
  have o4 : ∀ q j, ¬ q = 469 → τ4.1 q j = τ3.1 q j := fun q j hq => b4.2 _ _ (fun z => hq z.1)
  have C0 : CPo K L F H (aBegin K f g) (nI f) B 0 τ4 := by
    refine ⟨K3.fr b4 (fun q j z => by unfold sE at z; omega), by rw [o4 _ _ (by decide), k45]; rfl, by rw [o4 _ _ (by decide), k46]; rfl, by rw [o4 _ _ (by decide), k47]; rfl, b2, by rw [dp_0]; omega, fun _ => ⟨ty_begin hw hf, b3⟩, fun z => absurd z (by decide), ⟨1, rfl, by rw [dp_0]; omega, by omega⟩, fun i hi => ?_, fun d d1 d2 => ?_⟩
    · rw [show i = 0 by omega, o4 _ _ (by decide), k494, if_pos (Or.inl rfl)]
    · rw [o4 _ _ (by decide)]
      unfold cnt
      rw [dp_0]
      by_cases e : 1 = d
      · rw [if_pos e, ← e, k493]
        rfl
      · rw [if_neg e, o3 _ _ (by omega) (by omega) (by omega), d3 d (by omega) (by omega)]
        rfl
  obtain ⟨r1, r2, r3⟩ := rf_plain (N := N) hw (by omega) 1999 0 τ4 (by omega) C0 w (nI 61) (by omega)
  have c60 : (60 : Int32) < nI 61 := by decide
  have er : r_X9_goPlain (nI f) N τ = l_X9_goPlain N w 1 (nI f) (nI 61) τ4 := by
    unfold r_X9_goPlain
    rw [ec]
    refine Eq.trans (show _ = l_X9_goPlain N N 0 (nI f) (nI 0) τ1 from rfl) (d1.trans ?_)
    rw [l_X9_goPlain, if_pos c60, e6]
  have pp : p_X9_goPlain (nI f) N τ := by
    unfold p_X9_goPlain
    rw [ec]
    refine ⟨c1, ?_⟩
    refine show q_X9_goPlain N N 0 (nI f) (nI 0) τ1 from d2 ?_
    rw [q_X9_goPlain, e5, e6]
    exact ⟨fun _ => ⟨b1, r1⟩, fun z => absurd c60 z⟩
  rw [er]
  refine ⟨pp, (f3.tr (b4.wk (fun q j z => by unfold sE at z; unfold sPl; omega))).tr r2, ?_⟩
  rcases r3 with ⟨x1, k', x2, x3, x4, x5⟩ | ⟨x1, x2⟩
  · exact Or.inl ⟨x1, k', x3, fun i hi => x4 i (by omega) hi, x5⟩
  · exact Or.inr ⟨x1, fun k' y1 y2 => x2 k' (by omega) y1 (fun i _ hi => y2 i hi)⟩
/-- the class -/
theorem cl_whole {K : aK} {L F o q1 n3 q3 N f fr : Nat} {H : Nat → Nat} {g : Nat → Int32} {σ : zS} (hw : wfK K L F H) (hN : 8000 < N) (hq : q1 + 7 ≤ o ∨ o + 6 ≤ q1) (hq3 : q3 < o ∨ o + 6 ≤ q3) (h3 : fr + 4 ≤ n3) (h31 : n3 < 2 ^ 31) (hC : CK σ q1 K L F) (hn : σ.2 (o + 1) 4 = 1000001) (hf : f < F) (hg : ∀ i, i < K.2.2.2 f → σ.1 q3 (fr + i) = g i) : p_X7_followWhole o q1 (nI f) n3 q3 (nI fr) N σ ∧ zfr o (o + 6) σ (r_X7_followWhole o q1 (nI f) n3 q3 (nI fr) N σ).2 ∧ (r_X7_followWhole o q1 (nI f) n3 q3 (nI fr) N σ).2.2 = σ.2 ∧ (((r_X7_followWhole o q1 (nI f) n3 q3 (nI fr) N σ).1 = 1 ∧ ∃ k', 1 + k' ≤ 2000 ∧ (∀ i, i < k' → 1 ≤ dp K (aBegin K f g) i ∧ dp K (aBegin K f g) i ≤ 60) ∧ dp K (aBegin K f g) k' = 0 ∧ CFo K L F H (aBegin K f g) (nI f) 1 0 1 o q1 k' (r_X7_followWhole o q1 (nI f) n3 q3 (nI fr) N σ).2 ∧ (r_X7_followWhole o q1 (nI f) n3 q3 (nI fr) N σ).2.1 (o + 5) 0 = 1) ∨ ((r_X7_followWhole o q1 (nI f) n3 q3 (nI fr) N σ).1 = 0 ∧ ∀ k', 1 + k' ≤ 2000 → (∀ i, i < k' → 1 ≤ dp K (aBegin K f g) i ∧ dp K (aBegin K f g) i ≤ 60) → ¬ dp K (aBegin K f g) k' = 0)) := by
  obtain ⟨b1, b2, b3, b4⟩ := cls_begin_C (a := o + 1) (N := N) hw (show q1 + 7 ≤ o + 1 ∨ o + 1 + 4 ≤ q1 by omega) (by omega) h3 h31 (by omega) hC hf hg
  have e1 : u_X7_followWhole_1 o q1 (nI f) n3 q3 (nI fr) N σ = s_X0_begin (o + 1) q1 (nI f) n3 q3 (nI fr) N σ := rfl
  generalize s_X0_begin (o + 1) q1 (nI f) n3 q3 (nI fr) N σ = σ1 at b2 b3 b4 e1
  have e2 : u_X7_followWhole_2 o q1 (nI f) n3 q3 (nI fr) N σ = zuI σ1 (o + 5) 0 1 := by
    unfold u_X7_followWhole_2
    rw [e1]
    exact put_i (i := 0) (by decide) (by decide)
  have e5 : u_X7_followWhole_5 o q1 (nI f) n3 q3 (nI fr) N σ = zuI (zuI (zuI (zuI σ1 (o + 5) 0 1) o 2 1) o 3 1) o 4 0 := by
    unfold u_X7_followWhole_5 u_X7_followWhole_4 u_X7_followWhole_3
    rw [e2]
  have o5 : ∀ q j, ¬ (q = o ∧ (j = 2 ∨ j = 3 ∨ j = 4)) → ¬ (q = o + 5 ∧ j = 0) → (zuI (zuI (zuI (zuI σ1 (o + 5) 0 1) o 2 1) o 3 1) o 4 0).1 q j = σ1.1 q j := fun q j h1 h2 => by rw [gI_n (by omega), gI_n (by omega), gI_n (by omega), gI_n (by omega)]
  have k2 : (zuI (zuI (zuI (zuI σ1 (o + 5) 0 1) o 2 1) o 3 1) o 4 0).1 o 2 = 1 := by simp (disch := omega) only [gI_n, gI_h]
  have k3 : (zuI (zuI (zuI (zuI σ1 (o + 5) 0 1) o 2 1) o 3 1) o 4 0).1 o 3 = 1 := by simp (disch := omega) only [gI_n, gI_h]
  have k4 : (zuI (zuI (zuI (zuI σ1 (o + 5) 0 1) o 2 1) o 3 1) o 4 0).1 o 4 = 0 := gI_h rfl rfl
  have k5 : (zuI (zuI (zuI (zuI σ1 (o + 5) 0 1) o 2 1) o 3 1) o 4 0).1 (o + 5) 0 = 1 := by simp (disch := omega) only [gI_n, gI_h]
  have r5 : (zuI (zuI (zuI (zuI σ1 (o + 5) 0 1) o 2 1) o 3 1) o 4 0).2 = σ.2 := b3.1
  have f5 : zfr o (o + 6) σ (zuI (zuI (zuI (zuI σ1 (o + 5) 0 1) o 2 1) o 3 1) o 4 0) := fun q hq1 => ⟨funext fun j => by rw [o5 _ _ (by omega) (by omega)]; exact b3.2 _ _ (fun z => by unfold sA at z; omega), by rw [r5]⟩
  generalize zuI (zuI (zuI (zuI σ1 (o + 5) 0 1) o 2 1) o 3 1) o 4 0 = σ5 at e5 o5 k2 k3 k4 k5 r5 f5
  have C0 : CFo K L F H (aBegin K f g) (nI f) 1 0 1 o q1 0 σ5 := by
    refine ⟨⟨fun i hi => ⟨(f5.at (by omega)).trans (hC.1 i hi).1, (f5.at (by omega)).trans (hC.1 i hi).2⟩, fun a ha => ⟨(f5.at (by omega)).trans (hC.2 a ha).1, (f5.at (by omega)).trans (hC.2 a ha).2⟩⟩, by rw [r5]; exact hn, k2, k3, k4, (o5 _ _ (by omega) (by omega)).trans b2.1, by rw [dp_0]; omega, fun _ _ => ⟨ty_begin hw hf, ?_⟩, fun z => absurd z (by decide), fun i hi => absurd hi (by omega)⟩
    obtain ⟨y0, y1, y2, y3, y4, y5⟩ := b2
    exact ⟨(o5 _ _ (by omega) (by omega)).trans y0, fun z => (o5 _ _ (by omega) (by omega)).trans (y1 z), (o5 _ _ (by omega) (by omega)).trans y2, fun j hj => (o5 _ _ (by omega) (by omega)).trans (y3 j hj), fun k i a1 a2 hi => (o5 _ _ (by omega) (by omega)).trans (y4 k i a1 a2 hi), fun k a1 a2 => (o5 _ _ (by omega) (by omega)).trans (y5 k a1 a2)⟩
  obtain ⟨w1, w2, w3, w4, k', x1, x2, x3, x4, x5⟩ := cl_follow (N := N) (M := 2000) hw (by omega) (by omega) hq 1999 0 σ5 (by omega) C0 N (by omega)
  have e6 : u_X7_followWhole_6 o q1 (nI f) n3 q3 (nI fr) N σ = l_X7_follow o q1 N N (nI f) (nI 2000) σ5 := by
    unfold u_X7_followWhole_6 s_X7_follow
    rw [e5]
    rfl
  have pp : p_X7_followWhole o q1 (nI f) n3 q3 (nI fr) N σ := by
    unfold p_X7_followWhole p_X7_follow
    rw [e5]
    exact ⟨b1, put_p (by decide), w1⟩
  generalize l_X7_follow o q1 N N (nI f) (nI 2000) σ5 = σ6 at w2 w3 w4 x5 e6
  have d6 : σ6.1 (o + 1) 0 = nI (dp K (aBegin K f g) k') := x5.2.2.2.2.2.1
  have d61 := x5.2.2.2.2.2.2.1
  by_cases c : dp K (aBegin K f g) k' = 0
  · have c0 : σ6.1 (o + 1) 0 = 0 := by rw [d6, c]; rfl
    have er : r_X7_followWhole o q1 (nI f) n3 q3 (nI fr) N σ = (1, σ6) := by
      unfold r_X7_followWhole
      rw [e6, if_pos c0]
    rw [er]
    exact ⟨pp, f5.tr w2, w3.trans r5, Or.inl ⟨rfl, k', by omega, fun i hi => x3 i (by omega) hi, c, x5, (w4 0 (by omega)).trans k5⟩⟩
  · have c0 : ¬ σ6.1 (o + 1) 0 = 0 := by rw [d6]; exact nI_ne0 (by omega) (by omega)
    have er : r_X7_followWhole o q1 (nI f) n3 q3 (nI fr) N σ = (0, σ6) := by
      unfold r_X7_followWhole
      rw [e6, if_neg c0]
    rw [er]
    refine ⟨pp, f5.tr w2, w3.trans r5, Or.inr ⟨rfl, fun j y1 y2 y3 => ?_⟩⟩
    by_cases cj : j < k'
    · have := x3 j (by omega) cj
      omega
    · by_cases ck : j = k'
      · rw [ck] at y3
        exact c y3
      · have := y2 k' (by omega)
        omega
/-- both -/
theorem pr_whole {K : aK} {L F B o q1 n3 q3 N f fr : Nat} {H : Nat → Nat} {g : Nat → Int32} {σ τ : zS} (hw : wfK K L F H) (hN : 8000 < N) (hq : q1 + 7 ≤ o ∨ o + 6 ≤ q1) (hq3 : q3 < o ∨ o + 6 ≤ q3) (h3 : fr + 4 ≤ n3) (h31 : n3 < 2 ^ 31) (hC : CK σ q1 K L F) (hn : σ.2 (o + 1) 4 = 1000001) (hf : f < F) (hg : ∀ i, i < K.2.2.2 f → σ.1 q3 (fr + i) = g i) (hK : MK τ B K L F) (hg2 : ∀ i, i < K.2.2.2 f → τ.1 492 i = g i) : p_X7_followWhole o q1 (nI f) n3 q3 (nI fr) N σ ∧ p_X9_goPlain (nI f) N τ ∧ zfr o (o + 6) σ (r_X7_followWhole o q1 (nI f) n3 q3 (nI fr) N σ).2 ∧ (r_X7_followWhole o q1 (nI f) n3 q3 (nI fr) N σ).2.2 = σ.2 ∧ rfr sPl τ (r_X9_goPlain (nI f) N τ).2 ∧ (((r_X7_followWhole o q1 (nI f) n3 q3 (nI fr) N σ).1 = 1 ∧ (r_X9_goPlain (nI f) N τ).1 = 1 ∧ ∃ k', 1 + k' ≤ 2000 ∧ (∀ i, i < k' → 1 ≤ dp K (aBegin K f g) i ∧ dp K (aBegin K f g) i ≤ 60) ∧ dp K (aBegin K f g) k' = 0 ∧ CFo K L F H (aBegin K f g) (nI f) 1 0 1 o q1 k' (r_X7_followWhole o q1 (nI f) n3 q3 (nI fr) N σ).2 ∧ (r_X7_followWhole o q1 (nI f) n3 q3 (nI fr) N σ).2.1 (o + 5) 0 = 1 ∧ CPo K L F H (aBegin K f g) (nI f) B k' (r_X9_goPlain (nI f) N τ).2 ∧ (r_X9_goPlain (nI f) N τ).2.1 468 48 = (r_X9_goPlain (nI f) N τ).2.1 468 42) ∨ ((r_X7_followWhole o q1 (nI f) n3 q3 (nI fr) N σ).1 = 0 ∧ (r_X9_goPlain (nI f) N τ).1 = 0 ∧ ∀ k', 1 + k' ≤ 2000 → (∀ i, i < k' → 1 ≤ dp K (aBegin K f g) i ∧ dp K (aBegin K f g) i ≤ 60) → ¬ dp K (aBegin K f g) k' = 0)) := by
  obtain ⟨a1, a2, a3, a4⟩ := cl_whole (N := N) hw hN hq hq3 h3 h31 hC hn hf hg
  obtain ⟨b1, b2, b3⟩ := rf_go (N := N) hw hN hK hf hg2
  refine ⟨a1, b1, a2, a3, b2, ?_⟩
  rcases a4 with ⟨x1, k1, x2, x3, x4, x5, x6⟩ | ⟨x1, x2⟩
  · rcases b3 with ⟨y1, k2, y2, y3, y4, y5, y6⟩ | ⟨y1, y2⟩
    · have ek : k2 = k1 := by
        rcases Nat.lt_trichotomy k1 k2 with z | z | z
        · have := y3 k1 z
          omega
        · exact z.symm
        · have := x3 k2 z
          omega
      subst ek
      exact Or.inl ⟨x1, y1, k2, x2, x3, x4, x5, x6, y5, y6⟩
    · exact absurd x4 (y2 k1 x2 x3)
  · rcases b3 with ⟨y1, k2, y2, y3, y4, y5⟩ | ⟨y1, y2⟩
    · exact absurd y4 (x2 k2 y2 y3)
    · exact Or.inr ⟨x1, y1, x2⟩
/-- a plain run leaves rings and rows -/
theorem RX.pl {m sl al r q1 B W n L F e T M : Nat} {K : aK} {H tf D RS TP ST : Nat → Nat} {gv : Nat → Nat → Int32} {dT dM : Int32} {σ τ τ1 : zS} {A : Nat → Int32} {C : Nat → aC} (h : RX m sl al r q1 B W n K L F H tf gv dT dM e T M σ τ A D RS TP ST C) (h1 : τ1.1 468 16 = τ.1 468 16) (h2 : ∀ q j, (q = 470 ∨ q = 477 ∨ (480 ≤ q ∧ q ≤ 484)) → τ1.1 q j = τ.1 q j) (h3 : ∀ j, (j < 216 ∨ 236 ≤ j) → j < 11440 → τ1.1 469 j = τ.1 469 j) : RX m sl al r q1 B W n K L F H tf gv dT dM e T M σ τ1 (rowA τ1 A) D RS TP ST C := by
  obtain ⟨a1, a2, a3, a4, a5, a6, a7, a8, a9, a10, a11, a12, a13, a14, a15, a16, a17, a18, a19, a20⟩ := h
  have n4 := a11.2.2.2.1
  have ao : ∀ i, i < 216 → rowA τ1 A i = A i := fun i hi => rowA_o a7 (fun _ => h3 i (Or.inl hi) (by omega))
  refine ⟨a1, a2, fun a k i hk => ?_, a4.eq rfl rfl (fun _ => rfl) (fun i hi => ao i (by omega)), a5, ⟨a6.1, h1.trans a6.2.1, (h2 _ _ (by omega)).trans a6.2.2.1, (h2 _ _ (by omega)).trans a6.2.2.2⟩, rowA_M, a8.eq (fun i hi => ao i ?_), ?_, ?_, ?_, ?_, fun v hv => ?_, a14, fun v hv hv1 => ?_, fun v hv hv0 => ?_, a17, fun hm hal v hv hv2 => ?_, a19, a20⟩
  · rw [ao i ?_]
    · exact a3 a k i hk
    · unfold Lk at hk
      rcases hk with hk | hk | hk | ⟨t, hk⟩ | ⟨t, hk⟩ <;> omega
  · unfold wfp at hi
    rcases hi with hi | hi | hi | ⟨t, hi⟩ <;> omega
  · rcases a9 with ⟨u1, u2⟩ | ⟨p, u1, u2, u3⟩
    · exact Or.inl ⟨(ao 10 (by omega)).trans u1, u2⟩
    · have := a8.1
      refine Or.inr ⟨p, u1, (ao 10 (by omega)).trans u2, ?_⟩
      rw [ao (12 + p) (by omega)]
      exact u3
  · rw [ao 10 (by omega)]
    exact a10
  · obtain ⟨b1, b2, ⟨c1, c2, c3, c4⟩, b4, b5⟩ := a11
    refine ⟨b1, b2, ⟨c1, h1.trans c2, fun i hi => ⟨(h2 _ _ (by omega)).trans (c3 i hi).1, (h2 _ _ (by omega)).trans (c3 i hi).2⟩, fun f hf => ⟨(h2 _ _ (by omega)).trans (c4 f hf).1, (h2 _ _ (by omega)).trans (c4 f hf).2⟩⟩, b4, fun t ht => ?_⟩
    obtain ⟨d1, d2, d3, d4⟩ := b5 t ht
    exact ⟨d1, d2, (h2 _ _ (by omega)).trans d3, fun i hi => ⟨(d4 i hi).1, (h2 _ _ (by omega)).trans (d4 i hi).2⟩⟩
  · rw [ao 3 (by omega), ao 4 (by omega)]
    exact a12
  · obtain ⟨mo, u1, u2, u3, u4⟩ := a13 v hv
    exact ⟨mo, u1, u2, (ao _ (by omega)).trans u3, u4⟩
  · obtain ⟨z1, z2, ⟨y1, y2, y3, y4⟩, z4⟩ := a15 v hv hv1
    have hh := tyC_h a11.1 z2
    have h60 := z2.1.2
    exact ⟨z1, z2, ⟨fun k k1 k2 => (h3 _ (by omega) (by omega)).trans (y1 k k1 k2), (h3 _ (by omega) (by omega)).trans y2, fun j hj => (h3 _ (by omega) (by omega)).trans (y3 j hj), fun k i k1 k2 hi => (h3 _ (by omega) (by omega)).trans (y4 k i k1 k2 hi)⟩, z4⟩
  · exact ⟨(h3 _ (by omega) (by omega)).trans (a16 v hv hv0).1, (a16 v hv hv0).2⟩
  · rw [ao _ (by omega)]
    exact a18 hm hal v hv hv2
