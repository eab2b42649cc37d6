/-! prices, slices, a task that begins again -/
theorem RX.wfh {m sl al r q1 B W n L F e T M : Nat} {K : aK} {H tf D RS TP ST : Nat → Nat} {gv : Nat → Nat → Int32} {dT dM : Int32} {σ τ : zS} {A A1 : Nat → Int32} {C : Nat → aC} (h : RX m sl al r q1 B W n K L F H tf gv dT dM e T M σ τ A D RS TP ST C) (hA : ∀ i, (i = 6 ∨ i = 7 ∨ 136 ≤ i) → A1 i = A i) : WFh A1 ∧ ∀ v, v < 4 → (∃ c, c ≤ 3 ∧ A1 (141 + 20 * v) = nI c) ∧ ∃ g, g ≤ 16 ∧ (A1 (142 + 20 * v) = nI g ∨ A1 (142 + 20 * v) = -(nI g)) := by
  obtain ⟨a1, a2, a3, a4, a5, a6, a7, ⟨w1, w2, w3, y, k, y1, y2, y3, y4, y5⟩, -⟩ := h
  refine ⟨⟨y, k, y1, y2, (hA 6 (by omega)).trans y3, (hA 7 (by omega)).trans y4, y5⟩, fun v hv => ?_⟩
  obtain ⟨-, -, -, -, -, -, -, -, -, g1, g2⟩ := w2 v hv
  rw [hA _ (by omega), hA _ (by omega)]
  exact ⟨g1, g2⟩
theorem CRel.s5 {sl al r : Nat} {x y : Int32} {σ : zS} {A : Nat → Int32} (h : CRel sl al σ r A) (hx : sl = 1 → x = y) : CRel sl al (zuI σ r 6 x) r (upd A 5 y) := by
  by_cases c : sl = 1
  · rw [hx c]
    exact h.up (lk_g (by omega))
  · refine (h.sk (fun i z => ?_)).any (fun a k z => ?_)
    · unfold Lk at z
      rcases z with z | z | z | ⟨u, z⟩ | ⟨u, z⟩ <;> omega
    · unfold Lk at z
      rcases z with z | z | z | ⟨u, z⟩ | ⟨u, z⟩ <;> omega
theorem pr_slice {m sl al r q1 B W n L F e T M : Nat} {K : aK} {H tf D RS TP ST : Nat → Nat} {gv : Nat → Nat → Int32} {dT dM x y : Int32} {σ τ : zS} {A : Nat → Int32} {C : Nat → aC} (h : RX m sl al r q1 B W n K L F H tf gv dT dM e T M σ τ A D RS TP ST C) (hx : sl = 1 → x = y) : RX m sl al r q1 B W n K L F H tf gv dT dM e T M (zuI σ r 6 x) (zuI τ 469 5 y) (upd A 5 y) D RS TP ST C := by
  obtain ⟨w1, w2⟩ := h.wfh (A1 := upd A 5 y) (fun i hi => pk_un (by omega))
  exact h.set (fun q j z1 z2 => gI_n (fun z => z1 (by omega))) rfl (rfr.rf.uI ⟨rfl, by omega⟩) (fun i z1 z2 => pk_un (by omega)) (fun z => (pk_un (by omega)).trans z) (h.2.2.1.s5 hx) h.2.2.2.2.2.2.1.up w1 w2 h.2.2.2.2.2.2.2.2.2.2.2.2.2.2.2.2.2.2.1
theorem pr_price {m sl r q1 B W n L F e T M : Nat} {K : aK} {H tf D RS TP ST : Nat → Nat} {gv : Nat → Nat → Int32} {dT dM x y : Int32} {σ τ : zS} {A : Nat → Int32} {C : Nat → aC} (h : RX m sl 0 r q1 B W n K L F H tf gv dT dM e T M σ τ A D RS TP ST C) : RX m sl 0 r q1 B W n K L F H tf gv dT dM e T M (zuI (zuI σ r 4 x) r 5 y) (zuI (zuI τ 469 8 x) 469 9 y) (upd (upd A 8 x) 9 y) D RS TP ST C := by
  obtain ⟨w1, w2⟩ := h.wfh (A1 := upd (upd A 8 x) 9 y) (fun i hi => by rw [pk_un (by omega), pk_un (by omega)])
  exact h.set (fun q j z1 z2 => (gI_n (fun z => z1 (by omega))).trans (gI_n (fun z => z1 (by omega)))) rfl ((rfr.rf.uI ⟨rfl, by omega⟩).uI ⟨rfl, by omega⟩) (fun i z1 z2 => by rw [pk_un (by omega), pk_un (by omega)]) (fun z => by rw [pk_un (by omega), pk_un (by omega)]; exact z) ((h.2.2.1.up (lk_g (by omega))).up (lk_g (by omega))) h.2.2.2.2.2.2.1.up.up w1 w2 h.2.2.2.2.2.2.2.2.2.2.2.2.2.2.2.2.2.2.1
theorem pr_again {r q1 t B W n N L F e T M : Nat} {K : aK} {H tf D RS TP ST : Nat → Nat} {gv : Nat → Nat → Int32} {dT dM : Int32} {σ τ : zS} {A : Nat → Int32} {C : Nat → aC} (h : RX 0 1 0 r q1 B W n K L F H tf gv dT dM e T M σ τ A D RS TP ST C) (hN : 500 < N) (ht : t < n) (hov : 2 ≤ ST t) : p_X4_restart r (nI t) σ ∧ p_X9_clearTask (nI t) N τ ∧ RX 0 1 0 r q1 B W n K L F H tf gv dT dM e T M (s_X4_restart r (nI t) σ) (if (s_X9_clearTask (nI t) N τ).1 469 3 < 0 then zuI (s_X9_clearTask (nI t) N τ) 469 3 (nI t) else s_X9_clearTask (nI t) N τ) (rowA (if (s_X9_clearTask (nI t) N τ).1 469 3 < 0 then zuI (s_X9_clearTask (nI t) N τ) 469 3 (nI t) else s_X9_clearTask (nI t) N τ) A) D RS TP (fu ST t 0) C ∧ zfr r (r + 25) σ (s_X4_restart r (nI t) σ) ∧ rfr (fun q j => q = 469 ∧ j < 11440) τ (if (s_X9_clearTask (nI t) N τ).1 469 3 < 0 then zuI (s_X9_clearTask (nI t) N τ) 469 3 (nI t) else s_X9_clearTask (nI t) N τ) ∧ (∀ i, ¬ i = 3 → i < 136 → rowA (if (s_X9_clearTask (nI t) N τ).1 469 3 < 0 then zuI (s_X9_clearTask (nI t) N τ) 469 3 (nI t) else s_X9_clearTask (nI t) N τ) A i = A i) := by
  obtain ⟨a1, a2, a3, a4, a5, a6, a7, a8, a9, a10, a11, a12, a13, a14, a15, a16, a17, a18, a19, a20⟩ := h
  have n4 := a11.2.2.2.1
  have ht4 : t < 4 := by omega
  have bl := a1.1.1
  obtain ⟨w1, w2, w3, w4⟩ := a8
  obtain ⟨g1, g2, g3, g4, g5, g6, g7, g8, g9, -, -⟩ := w2 t ht4
  have D0 : D t = 0 := by
    apply Classical.byContradiction
    intro z
    have := g8.mpr (by omega)
    omega
  have tk := tk_eq a2.2.2 ht4
  obtain ⟨t1, t2, t3⟩ := cl_clr (a := r + 5 + 5 * t) (σ := σ)
  obtain ⟨c1, c2, c3, c4, c5, c6⟩ := rw_clear (τ := τ) hN (show t ≤ 4 by omega)
  have e3 : (s_X9_clearTask (nI t) N τ).1 469 3 = A 3 := (c5 _ _ (by omega)).trans (a7 3 (by omega))
  have f7 : (s_X5_clear (r + 5 + 5 * t) σ).1 r 7 = A 3 := (t2 _ _ (by omega) (by omega)).trans (a3 r 7 3 (lk_g (by omega)))
  have es : s_X4_restart r (nI t) σ = if A 3 = -1 then zuI (zuI (s_X5_clear (r + 5 + 5 * t) σ) r 7 (nI t)) r 8 0 else s_X5_clear (r + 5 + 5 * t) σ := by
    unfold s_X4_restart u_X4_restart_3 u_X4_restart_2 u_X4_restart_1
    rw [tk, f7]
  rw [es, e3]
  refine ⟨tk_p a1.1 a2.2.2 ht4, c1, ?_⟩
  -- both sides, whether the turn comes back or not
  have hx : ∃ (x y : Int32), (if A 3 = -1 then zuI (zuI (s_X5_clear (r + 5 + 5 * t) σ) r 7 (nI t)) r 8 0 else s_X5_clear (r + 5 + 5 * t) σ) = (if A 3 = -1 then zuI (zuI (s_X5_clear (r + 5 + 5 * t) σ) r 7 x) r 8 0 else s_X5_clear (r + 5 + 5 * t) σ) := ⟨nI t, 0, rfl⟩
  clear hx
  generalize hσ1 : (if A 3 = -1 then zuI (zuI (s_X5_clear (r + 5 + 5 * t) σ) r 7 (nI t)) r 8 0 else s_X5_clear (r + 5 + 5 * t) σ) = σ1
  generalize hτ1 : (if A 3 < 0 then zuI (s_X9_clearTask (nI t) N τ) 469 3 (nI t) else s_X9_clearTask (nI t) N τ) = τ1
  generalize s_X5_clear (r + 5 + 5 * t) σ = σ0 at t1 t2 t3 f7 hσ1
  generalize s_X9_clearTask (nI t) N τ = τ0 at c2 c3 c4 c5 c6 e3 hτ1
  have s0 : ∀ q j, ¬ (q = r ∧ (j = 7 ∨ j = 8)) → σ1.1 q j = σ0.1 q j := fun q j z => by
    rw [← hσ1]
    by_cases c : A 3 = -1
    · rw [if_pos c, gI_n (by omega), gI_n (by omega)]
    · rw [if_neg c]
  have r0 : σ1.2 = σ0.2 := by
    rw [← hσ1]
    by_cases c : A 3 = -1
    · rw [if_pos c]; rfl
    · rw [if_neg c]
  have u0 : ∀ q j, ¬ (q = 469 ∧ j = 3) → τ1.1 q j = τ0.1 q j := fun q j z => by
    rw [← hτ1]
    by_cases c : A 3 < 0
    · rw [if_pos c, gI_n (by omega)]
    · rw [if_neg c]
  have v0 : τ1.2 = τ.2 := by
    rw [← hτ1]
    by_cases c : A 3 < 0
    · rw [if_pos c]; exact c6
    · rw [if_neg c]; exact c6
  have sO : ∀ q j, ¬ (q = r ∧ (j = 7 ∨ j = 8)) → ¬ q = r + 5 + 5 * t → ¬ q = r + 6 + 5 * t → σ1.1 q j = σ.1 q j := fun q j z1 z2 z3 => (s0 q j z1).trans (t2 q j z2 (by omega))
  have rO : ∀ q j, ¬ (q = r + 6 + 5 * t ∧ j = 4) → σ1.2 q j = σ.2 q j := fun q j z => by rw [r0]; exact t3 q j (by omega)
  have tO : ∀ q j, ¬ (q = 469 ∧ (j = 3 ∨ (136 + 20 * t ≤ j ∧ j < 156 + 20 * t) ∨ j = 236 + 2801 * t)) → τ1.1 q j = τ.1 q j := fun q j z => (u0 q j (by omega)).trans (c5 q j (by omega))
  have ao : ∀ i, ¬ i = 3 → ¬ (136 + 20 * t ≤ i ∧ i < 156 + 20 * t) → rowA τ1 A i = A i := fun i h3 hi => rowA_o a7 (fun _ => tO 469 i (by omega))
  have at0 : ∀ k, k < 20 → ¬ k = 5 → rowA τ1 A (136 + 20 * t + k) = 0 := fun k hk h5 => by rw [rowA_i (by omega), u0 _ _ (by omega)]; exact c2 k hk h5
  have az : ∀ i, 136 + 20 * t ≤ i → i < 156 + 20 * t → ¬ i = 141 + 20 * t → rowA τ1 A i = 0 := fun i i1 i2 i3 => by
    have := at0 (i - (136 + 20 * t)) (by omega) (by omega)
    rw [show 136 + 20 * t + (i - (136 + 20 * t)) = i by omega] at this
    exact this
  have at5 : rowA τ1 A (141 + 20 * t) = 1 := by rw [rowA_i (by omega), u0 _ _ (by omega)]; exact c3
  have fz : rfr (fun q j => q = 469 ∧ j < 11440) τ τ1 := ⟨v0, fun q j z => tO q j (by omega)⟩
  have cs : ∀ v, v < 4 → ¬ v = t → ∀ q j, ((r + 6 + 5 * v ≤ q ∧ q < r + 6 + 5 * v + 4) ∨ q < r ∨ r + 25 ≤ q) → σ1.1 q j = σ.1 q j := fun v hv hvt q j hq => sO q j (by omega) (by omega) (by omega)
  have a3' : rowA τ1 A 3 = (if A 3 = -1 then nI t else A 3) := by
    rw [rowA_i (by omega), ← hτ1]
    rcases a12 with ⟨z, -⟩ | ⟨u, u1, u2, u3⟩
    · rw [z, if_pos (by decide), if_pos rfl, gI_h rfl rfl]
    · rw [u2, if_neg (nI_pos (by omega)), if_neg (m1_ne (by omega)), e3, u2]
  refine ⟨⟨a1, ⟨(sO _ _ (by omega) (by omega) (by omega)).trans a2.1, (sO _ _ (by omega) (by omega) (by omega)).trans a2.2.1, fun v hv => (rO _ _ (by omega)).trans (a2.2.2 v hv)⟩, fun a k i hk => ?_, a4.eq (sO _ _ (by omega) (by omega) (by omega)) (sO _ _ (by omega) (by omega) (by omega)) (fun j => sO _ _ (by omega) (by omega) (by omega)) (fun i hi => ao i (by omega) (by omega)), fun v hv hv1 => ?_, ⟨a6.1, (tO _ _ (by omega)).trans a6.2.1, (tO _ _ (by omega)).trans a6.2.2.1, (tO _ _ (by omega)).trans a6.2.2.2⟩, rowA_M, ⟨w1, fun v hv => ?_, ?_, ?_⟩, ?_, ?_, (a11.rf fz (fun q j z => by omega)).eq (fun q j m1 m2 => sO q j (by omega) (by omega) (by omega)), ?_, fun v hv => ?_, fun v hv => ?_, fun v hv hv1 => ?_, fun v hv hv0 => ?_, fun _ v hv => ?_, fun _ _ v hv hv2 => ?_, Or.inl rfl, fun _ v hv => ?_⟩, fun q hq => ⟨funext fun j => sO q j (by omega) (by omega) (by omega), funext fun j => rO q j (by omega)⟩, fz, fun i i3 i1 => ao i i3 (by omega)⟩
  · have hi := hk.lt
    by_cases e : i = 3
    · subst e
      obtain ⟨rfl, rfl⟩ := (hk.inj (lk_g (r := r) (sl := 1) (al := 0) (k := 7) (i := 3) (by omega))).mpr rfl
      rw [a3', ← hσ1]
      by_cases c : A 3 = -1
      · rw [if_pos c, if_pos c, gI_n (by omega), gI_h rfl rfl]
      · rw [if_neg c, if_neg c, f7]
    · by_cases e4 : i = 4
      · subst e4
        obtain ⟨rfl, rfl⟩ := (hk.inj (lk_g (r := r) (sl := 1) (al := 0) (k := 8) (i := 4) (by omega))).mpr rfl
        rw [ao 4 (by omega) (by omega), ← hσ1]
        by_cases c : A 3 = -1
        · rw [if_pos c, gI_h rfl rfl]
          rcases a12 with ⟨-, z, -⟩ | ⟨u, u1, u2, u3⟩
          · exact z.symm
          · exact absurd (u2.symm.trans c) (m1_ne (by omega))
        · rw [if_neg c, t2 _ _ (by omega) (by omega)]
          exact a3 _ _ _ hk
      · obtain ⟨d1, d2, d4, d5, d6, d7, d8, d9, d10, d11, dd0, dd2, ddr⟩ := t1
        have hk1 := hk
        unfold Lk at hk
        rcases hk with ⟨rfl, hk⟩ | ⟨rfl, hk, e⟩ | ⟨rfl, hk, e⟩ | ⟨v, hv, rfl, hk⟩ | ⟨v, hv, rfl, rfl, e⟩
        · rw [ao i (by omega) (by omega), sO _ _ (by omega) (by omega) (by omega)]
          exact a3 _ _ _ hk1
        · rw [ao i (by omega) (by omega), sO _ _ (by omega) (by omega) (by omega)]
          exact a3 _ _ _ hk1
        · rw [ao i (by omega) (by omega), sO _ _ (by omega) (by omega) (by omega)]
          exact a3 _ _ _ hk1
        · by_cases cv : v = t
          · subst cv
            rw [s0 _ _ (by omega)]
            rcases hk with ⟨rfl, rfl⟩ | ⟨h1, h2, rfl⟩
            · rw [d2, az _ (by omega) (by omega) (by omega)]
            · rcases (show k = 4 ∨ k = 5 ∨ k = 6 ∨ k = 7 ∨ k = 8 ∨ k = 9 ∨ k = 10 ∨ k = 11 by omega) with rfl | rfl | rfl | rfl | rfl | rfl | rfl | rfl
              · rw [d4, az _ (by omega) (by omega) (by omega)]
              · rw [d5, az _ (by omega) (by omega) (by omega)]
              · rw [d6, show 135 + 20 * v + 6 = 141 + 20 * v by omega, at5]
              · rw [d7, az _ (by omega) (by omega) (by omega)]
              · rw [d8, az _ (by omega) (by omega) (by omega)]
              · rw [d9, az _ (by omega) (by omega) (by omega)]
              · rw [d10, az _ (by omega) (by omega) (by omega)]
              · rw [d11, az _ (by omega) (by omega) (by omega)]
          · rw [ao i (by omega) (by omega), sO _ _ (by omega) (by omega) (by omega)]
            exact a3 _ _ _ hk1
        · by_cases cv : v = t
          · subst cv
            rw [s0 _ _ (by omega), e, az _ (by omega) (by omega) (by omega), show r + 6 + 5 * v = r + 5 + 5 * v + 1 by omega]
            exact dd0
          · rw [ao i (by omega) (by omega), sO _ _ (by omega) (by omega) (by omega)]
            exact a3 _ _ _ hk1
  · have hvt : ¬ v = t := by
      intro z
      rw [z] at hv1
      omega
    rw [sO _ _ (by omega) (by omega) (by omega)]
    exact a5 v hv hv1
  · by_cases cv : v = t
    · subst cv
      rw [show WFt (rowA τ1 A) W D RS TP (fu ST v 0) v = WFt (rowA τ1 A) W D RS TP (fu ST v 0) v from rfl]
      unfold WFt
      rw [fu_s]
      exact ⟨az _ (by omega) (by omega) (by omega), by omega, by rw [D0]; exact az _ (by omega) (by omega) (by omega), g4, by rw [show RS v = 0 by omega]; exact az _ (by omega) (by omega) (by omega), g6, g7, by rw [D0]; omega, fun y => by omega, ⟨1, by omega, at5⟩, 0, by omega, Or.inl (az _ (by omega) (by omega) (by omega))⟩
    · have := (w2 v hv).eq (A1 := rowA τ1 A) (fun i hi => ao i (by omega) (by omega))
      unfold WFt at this ⊢
      rw [fu_n cv]
      exact this
  · exact w3.eq w1.2 (fun u hu => WF.lim ⟨w1, w2, w3, w4⟩ hu) (fun i i1 i2 => ao i (by omega) (by omega))
  · obtain ⟨y, k, y1, y2, y3, y4, y5⟩ := w4
    exact ⟨y, k, y1, y2, (ao 6 (by omega) (by omega)).trans y3, (ao 7 (by omega) (by omega)).trans y4, y5⟩
  · rcases a9 with ⟨u1, u2⟩ | ⟨p, u1, u2, u3⟩
    · exact Or.inl ⟨(ao 10 (by omega) (by omega)).trans u1, u2⟩
    · refine Or.inr ⟨p, u1, (ao 10 (by omega) (by omega)).trans u2, ?_⟩
      rw [ao (12 + p) (by omega) (by omega)]
      exact u3
  · rw [sO _ _ (by omega) (by omega) (by omega), ao 10 (by omega) (by omega)]
    exact a10
  · rw [a3']
    rcases a12 with ⟨z, -⟩ | ⟨u, u1, u2, u3⟩
    · rw [if_pos z]
      exact Or.inr ⟨t, ht, rfl, by rw [fu_s]; omega⟩
    · rw [if_neg (by rw [u2]; exact m1_ne (by omega))]
      exact Or.inr ⟨u, u1, u2, by rw [fu_n (by intro z; rw [z] at u3; omega)]; exact u3⟩
  · by_cases cv : v = t
    · subst cv
      exact ⟨0, by omega, by omega, az _ (by omega) (by omega) (by omega), fun _ => rfl⟩
    · obtain ⟨mo, u1, u2, u3, u4⟩ := a13 v hv
      exact ⟨mo, u1, u2, (ao _ (by omega) (by omega)).trans u3, by rw [fu_n cv]; exact u4⟩
  · by_cases cv : v = t
    · subst cv
      refine Or.inl ?_
      rw [s0 _ _ (by omega), fu_s]
      exact t1.1
    · have := a14 v hv
      unfold Sx at this ⊢
      rw [sO _ _ (by omega) (by omega) (by omega), fu_n cv]
      exact this
  · have cv : ¬ v = t := by
      intro z
      rw [z, fu_s] at hv1
      omega
    rw [fu_n cv] at hv1
    obtain ⟨z1, z2, z3, z4⟩ := a15 v hv hv1
    have h60 := z2.1.2
    have hh := tyC_h a11.1 z2
    refine ⟨z1, z2, ⟨fun k k1 k2 => (tO _ _ (by omega)).trans (z3.1 k k1 k2), (tO _ _ (by omega)).trans z3.2.1, fun j hj => (tO _ _ (by omega)).trans (z3.2.2.1 j hj), fun k i k1 k2 hi => (tO _ _ (by omega)).trans (z3.2.2.2 k i k1 k2 hi)⟩, z4.eq (cs v hv cv) (rO _ _ (by omega))⟩
  · by_cases cv : v = t
    · subst cv
      refine ⟨(u0 _ _ (by omega)).trans c4, Or.inl ⟨rfl, ?_⟩⟩
      rw [r0, show r + 6 + 5 * v = r + 5 + 5 * v + 1 by omega]
      exact t1.2.2.2.2.2.2.2.2.2.2.2.2
    · rw [fu_n cv] at hv0
      obtain ⟨z1, z2⟩ := a16 v hv hv0
      exact ⟨(tO _ _ (by omega)).trans z1, z2.eq (cs v (by omega) cv) (rO _ _ (by omega))⟩
  · by_cases cv : v = t
    · subst cv
      rw [r0, show r + 6 + 5 * v = r + 5 + 5 * v + 1 by omega]
      exact t1.2.2.2.2.2.2.2.2.2.2.2.2
    · rw [rO _ _ (by omega)]
      exact a17 rfl v hv
  · have cv : ¬ v = t := by
      intro z
      rw [z, fu_s] at hv2
      omega
    rw [fu_n cv] at hv2
    rw [cs v hv cv _ _ (by omega), ao _ (by omega) (by omega)]
    exact a18 rfl rfl v hv hv2
  · by_cases cv : v = t
    · subst cv
      refine ⟨0, by omega, ?_⟩
      rw [s0 _ _ (by omega), show r + 6 + 5 * v = r + 5 + 5 * v + 1 by omega]
      exact t1.2.2.2.2.2.2.2.2.2.2.2.1
    · rw [cs v hv cv _ _ (by omega)]
      exact a20 rfl v hv
