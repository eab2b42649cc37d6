/-! heights of code while it grows -/
section IS
variable {K K1 K2 : aK} {H H1 H2 : Nat → Nat} {F : Nat}
theorem wfI.upi {L L1 i : Nat} (h : wfI K (L + 1) F H i) (k1 : K1.1 i = K.1 i) (k2 : K1.2.1 i = K.2.1 i) (k3 : K1.2.2 = K.2.2) (hH : ∀ j, j ≤ L → H1 j = H j) (hi : i < L) (hL : L ≤ L1) : wfI K1 (L1 + 1) F H1 i := by
  unfold wfI at h ⊢
  rw [k1, k2, k3]
  have hi0 := hH i (by omega)
  have hi1 := hH (i + 1) (by omega)
  split at h
  · rw [hi0, hi1]; exact ⟨by omega, h.2⟩
  · rw [hi0, hi1]; exact ⟨⟨by omega, h.1.2⟩, h.2⟩
  · rw [hi0, hi1]; exact ⟨by omega, h.2⟩
  · rw [hi0, hi1]; exact ⟨by omega, h.2⟩
  · rw [hi0, hi1]; exact ⟨by omega, h.2⟩
  · rw [hi0, hi1]; exact ⟨by omega, h.2⟩
  · rw [hi0, hi1]; exact ⟨by omega, h.2⟩
  · rw [hi0, hi1]; exact ⟨by omega, h.2⟩
  · rw [hi0, hi1]; exact ⟨by omega, h.2⟩
  · obtain ⟨g1, p, g2, g3, g4, g5⟩ := h
    rw [hi0, hi1]; exact ⟨⟨by omega, g1.2⟩, p, g2, by omega, g4, by rw [hH p (by omega)]; exact g5⟩
  · obtain ⟨g1, p, g2, g3, g4, g5⟩ := h
    rw [hi0, hi1]; exact ⟨⟨by omega, g1.2⟩, p, g2, by omega, g4, by rw [hH p (by omega)]; exact g5⟩
  · obtain ⟨g1, p, g2, g3, g4, g5⟩ := h
    rw [hi0, hi1]; exact ⟨⟨by omega, g1.2⟩, p, g2, by omega, g4, by rw [hH p (by omega)]; exact g5⟩
  · obtain ⟨p, g2, g3, g4, g5⟩ := h
    rw [hi0]; exact ⟨p, g2, by omega, g4, by rw [hH p (by omega)]; exact g5⟩
  · rw [hi0]; exact h
  · exact h
theorem wfI.up {L L1 i : Nat} (h : wfI K (L + 1) F H i) (hK : agK K K1 L) (hH : ∀ j, j ≤ L → H1 j = H j) (hi : i < L) (hL : L ≤ L1) : wfI K1 (L1 + 1) F H1 i := h.upi (hK.1 i hi).1 (hK.1 i hi).2 hK.2 hH hi hL
/-- code that goes on from one length to another -/
def TS (K : aK) (H : Nat → Nat) (L : Nat) (K1 : aK) (H1 : Nat → Nat) (L1 F : Nat) : Prop := agK K K1 L ∧ (∀ i, i ≤ L → H1 i = H i) ∧ L ≤ L1 ∧ ∀ i, L ≤ i → i < L1 → H1 i ≤ 28 ∧ wfI K1 (L1 + 1) F H1 i
theorem TS.rf {L : Nat} : TS K H L K H L F := ⟨agK.rf, fun _ _ => rfl, Nat.le_refl _, fun i i1 i2 => by omega⟩
theorem TS.tr {L L1 L2 : Nat} (h : TS K H L K1 H1 L1 F) (g : TS K1 H1 L1 K2 H2 L2 F) : TS K H L K2 H2 L2 F := by
  refine ⟨h.1.tr g.1 h.2.2.1, fun i hi => (g.2.1 i (by have := h.2.2.1; omega)).trans (h.2.1 i hi), Nat.le_trans h.2.2.1 g.2.2.1, fun i i1 i2 => ?_⟩
  by_cases c : i < L1
  · obtain ⟨a1, a2⟩ := h.2.2.2 i i1 c
    exact ⟨by rw [g.2.1 i (by omega)]; exact a1, a2.up g.1 g.2.1 c g.2.2.1⟩
  · exact g.2.2.2 i (by omega) i2
def seH (H : Nat → Nat) (L h : Nat) : Nat → Nat := fun i => if i = L then h else H i
theorem seH_o {L h : Nat} : seH H L h L = h := if_pos rfl
theorem seH_n {L h i : Nat} (hi : ¬ i = L) : seH H L h i = H i := if_neg hi
/-- one instruction more -/
theorem TS.one {L o hh : Nat} {x : Int32} (hH : H L ≤ 28) (hw : wfI (seK K L o x) (L + 1 + 1) F (seH H (L + 1) hh) L) : TS K H L (seK K L o x) (seH H (L + 1) hh) (L + 1) F := by
  refine ⟨seK_ag, fun i hi => seH_n (by omega), by omega, fun i i1 i2 => ?_⟩
  obtain rfl : i = L := by omega
  exact ⟨by rw [seH_n (by omega)]; exact hH, hw⟩
theorem ts_num {L h : Nat} {x : Int32} (hH : H L = h) (h28 : h ≤ 28) : TS K H L (seK K L 0 x) (seH H (L + 1) (h + 1)) (L + 1) F := by
  refine TS.one (by omega) ?_
  unfold wfI
  rw [seK_o.1, seH_o, seH_n (by omega), hH]
  exact ⟨by omega, rfl⟩
theorem ts_par {L h p : Nat} (hH : H L = h) (h28 : h ≤ 28) (hp : p < 4) : TS K H L (seK K L 1 (nI p)) (seH H (L + 1) (h + 1)) (L + 1) F := by
  refine TS.one (by omega) ?_
  unfold wfI
  rw [seK_o.1, seH_o, seH_n (by omega), hH, seK_o.2]
  exact ⟨⟨by omega, rfl⟩, p, hp, rfl⟩
theorem ts_two {L h o : Nat} (hH : H L = h + 2) (h28 : h + 2 ≤ 28) (ho : 2 ≤ o ∧ o ≤ 6) : TS K H L (seK K L o 0) (seH H (L + 1) (h + 1)) (L + 1) F := by
  refine TS.one (by omega) ?_
  unfold wfI
  rw [seK_o.1, seH_o, seH_n (by omega), hH]
  rcases (show o = 2 ∨ o = 3 ∨ o = 4 ∨ o = 5 ∨ o = 6 by omega) with rfl | rfl | rfl | rfl | rfl <;> exact ⟨by omega, by omega, by omega⟩
theorem ts_min {L h : Nat} (hH : H L = h + 1) (h28 : h + 1 ≤ 28) : TS K H L (seK K L 7 0) (seH H (L + 1) (h + 1)) (L + 1) F := by
  refine TS.one (by omega) ?_
  unfold wfI
  rw [seK_o.1, seH_o, seH_n (by omega), hH]
  exact ⟨by omega, by omega, rfl⟩
theorem ts_call {L h f : Nat} (hf : f < F) (hH : H L = h + K.2.2.2 f) (h28 : h + K.2.2.2 f ≤ 28) : TS K H L (seK K L 8 (nI f)) (seH H (L + 1) (h + 1)) (L + 1) F := by
  refine TS.one (by omega) ?_
  unfold wfI
  rw [seK_o.1, seH_o, seH_n (by omega), hH, seK_o.2]
  refine ⟨by omega, f, hf, rfl, ?_, ?_⟩
  · show K.2.2.2 f ≤ h + K.2.2.2 f
    omega
  · show h + 1 = h + K.2.2.2 f - K.2.2.2 f + 1
    omega
theorem ts_ret {L : Nat} (hH : H L = 1) : TS K H L (seK K L 13 0) (seH H (L + 1) 0) (L + 1) F := by
  refine TS.one (by omega) ?_
  unfold wfI
  rw [seK_o.1]
  refine show seH H (L + 1) 0 L = 1 from ?_
  rw [seH_n (by omega)]
  exact hH
/-- a whole IF: two sums, the test, a formula, the jump, a formula; the places patched behind -/
theorem ts_if {L Lt Lj Le h o : Nat} {Ka Kb Kc : aK} {Ha Hb Hc : Nat → Nat} (ho : 9 ≤ o ∧ o ≤ 11) (h28 : h + 2 ≤ 28) (a : TS K H L Ka Ha Lt F) (ha : Ha Lt = h + 2) (b : TS (seK Ka Lt o 0) (seH Ha (Lt + 1) h) (Lt + 1) Kb Hb Lj F) (hb : Hb Lj = h + 1) (c : TS (seK (seK Kb Lj 12 0) Lt o (nI (Lj + 1))) (seH Hb (Lj + 1) h) (Lj + 1) Kc Hc Le F) (hc : Hc Le = h + 1) : TS K H L (seK Kc Lj 12 (nI Le)) Hc Le F ∧ Hc L = H L := by
  have b3 := b.2.2.1
  have a3 := a.2.2.1
  have c3 := c.2.2.1
  -- what Kc holds
  have kc : ∀ i, i < Lj + 1 → Kc.1 i = (seK (seK Kb Lj 12 0) Lt o (nI (Lj + 1))).1 i ∧ Kc.2.1 i = (seK (seK Kb Lj 12 0) Lt o (nI (Lj + 1))).2.1 i := c.1.1
  have s1 : ∀ i, ¬ i = Lt → ¬ i = Lj → (seK (seK Kb Lj 12 0) Lt o (nI (Lj + 1))).1 i = Kb.1 i ∧ (seK (seK Kb Lj 12 0) Lt o (nI (Lj + 1))).2.1 i = Kb.2.1 i := fun i y1 y2 => ⟨(if_neg y1).trans (if_neg y2), (if_neg y1).trans (if_neg y2)⟩
  have hHc : ∀ i, i ≤ Lj → Hc i = Hb i := fun i hi => (c.2.1 i (by omega)).trans (seH_n (by omega))
  have hHb : ∀ i, i ≤ Lt → Hb i = Ha i := fun i hi => (b.2.1 i (by omega)).trans (seH_n (by omega))
  have kb : ∀ i, i < Lt → Kb.1 i = Ka.1 i ∧ Kb.2.1 i = Ka.2.1 i := fun i hi => ⟨((b.1.1 i (by omega)).1).trans (if_neg (by omega)), ((b.1.1 i (by omega)).2).trans (if_neg (by omega))⟩
  have e22 : Kc.2.2 = K.2.2 := c.1.2.trans (b.1.2.trans a.1.2)
  have hcj : Hc (Lj + 1) = h := (c.2.1 (Lj + 1) (Nat.le_refl _)).trans seH_o
  have hbt : Hb (Lt + 1) = h := (b.2.1 (Lt + 1) (Nat.le_refl _)).trans seH_o
  have gl : ∀ i, i < Lt → (seK Kc Lj 12 (nI Le)).1 i = Ka.1 i ∧ (seK Kc Lj 12 (nI Le)).2.1 i = Ka.2.1 i := fun i hi => ⟨(if_neg (by omega)).trans ((kc i (by omega)).1.trans ((s1 i (by omega) (by omega)).1.trans (kb i hi).1)), (if_neg (by omega)).trans ((kc i (by omega)).2.trans ((s1 i (by omega) (by omega)).2.trans (kb i hi).2))⟩
  refine ⟨⟨⟨fun i hi => ?_, e22⟩, fun i hi => ?_, by omega, fun i i1 i2 => ?_⟩, ?_⟩
  · exact ⟨(gl i (by omega)).1.trans (a.1.1 i hi).1, (gl i (by omega)).2.trans (a.1.1 i hi).2⟩
  · rw [hHc i (by omega), hHb i (by omega)]
    exact a.2.1 i hi
  · by_cases c1 : i < Lt
    · obtain ⟨x1, x2⟩ := a.2.2.2 i i1 c1
      refine ⟨by rw [hHc i (by omega), hHb i (by omega)]; exact x1, x2.up ⟨gl, ?_⟩ (fun j hj => (hHc j (by omega)).trans (hHb j hj)) c1 (by omega)⟩
      exact e22.trans a.1.2.symm
    · by_cases c2 : i = Lt
      · subst c2
        have hi0 : Hc i = h + 2 := by rw [hHc i (by omega), hHb i (by omega)]; exact ha
        have hi1 : Hc (i + 1) = h := by
          by_cases e : i + 1 ≤ Lj
          · rw [hHc _ e]; exact hbt
          · omega
        refine ⟨by omega, ?_⟩
        have o1 : (seK Kc Lj 12 (nI Le)).1 i = o := (if_neg (by omega)).trans ((kc i (by omega)).1.trans (if_pos rfl))
        have o2 : (seK Kc Lj 12 (nI Le)).2.1 i = nI (Lj + 1) := (if_neg (by omega)).trans ((kc i (by omega)).2.trans (if_pos rfl))
        unfold wfI
        rw [o1, o2, hi0, hi1]
        rcases (show o = 9 ∨ o = 10 ∨ o = 11 by omega) with rfl | rfl | rfl <;> exact ⟨⟨by omega, by omega, by omega⟩, Lj + 1, by omega, by omega, rfl, by rw [hcj]; omega⟩
      · by_cases c3' : i < Lj
        · obtain ⟨x1, x2⟩ := b.2.2.2 i (by omega) c3'
          exact ⟨by rw [hHc i (by omega)]; exact x1, x2.upi ((if_neg (by omega)).trans ((kc i (by omega)).1.trans (s1 i c2 (by omega)).1)) ((if_neg (by omega)).trans ((kc i (by omega)).2.trans (s1 i c2 (by omega)).2)) (e22.trans (b.1.2.trans a.1.2).symm) hHc c3' (by omega)⟩
        · by_cases c4 : i = Lj
          · subst c4
            have hi0 : Hc i = h + 1 := by rw [hHc i (by omega)]; exact hb
            refine ⟨by omega, ?_⟩
            have o1 : (seK Kc i 12 (nI Le)).1 i = 12 := seK_o.1
            have o2 : (seK Kc i 12 (nI Le)).2.1 i = nI Le := seK_o.2
            unfold wfI
            rw [o1, o2, hi0]
            exact ⟨Le, by omega, by omega, rfl, hc⟩
          · obtain ⟨x1, x2⟩ := c.2.2.2 i (by omega) i2
            exact ⟨x1, x2.upi (if_neg c4) (if_neg c4) rfl (fun _ _ => rfl) i2 (Nat.le_refl _)⟩
  · rw [hHc L (by omega), hHb L (by omega)]
    exact a.2.1 L (Nat.le_refl _)
end IS
