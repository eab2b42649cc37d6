/-! looking ahead: the ways found out, and played by what was found out -/
section IS
variable {q1 q2 B W n L F U U1 r p l N : Nat} {K : aK} {H tf rg : Nat → Nat} {gv : Nat → Nat → Int32} {σ σ1 σ2 τ τ1 τ2 : zS} {x1 x2 x3 x4 x5 x6 : Int32}
theorem CFo.cfr {c0 : aC} {x m0 s0 : Int32} {o k' : Nat} (h : CFo K L F H c0 x m0 s0 0 o q1 k' σ) (hk : k' = 3000 ∨ dp K c0 k' = 0 ∨ dp K c0 k' = 61) : CFr σ (o + 5) 0 K c0 := by
  intro k hk3 hl
  have c : k < k' := by
    apply Classical.byContradiction
    intro c
    have h1 := hl k' (by omega)
    have e : (aIt K k' c0).1 = dp K c0 k' := rfl
    omega
  exact h.2.2.2.2.2.2.2.2.2 k c
theorem cl_fol {o : Nat} {c0 : aC} {x : Int32} (hw : wfK K L F H) (hN : 8000 < N) (hq : q1 + 7 ≤ o ∨ o + 6 ≤ q1) (hC : CK σ q1 K L F) (hn : σ.2 (o + 1) 4 = 1000001) (h2 : σ.1 o 2 = 0) (hd : σ.1 (o + 1) 0 = nI c0.1) (d60 : c0.1 ≤ 60) (hc : 1 ≤ c0.1 → tyC L H c0 ∧ CC σ (o + 1) c0) : q_X7_follow o q1 N N x (nI 3000) σ ∧ zfr o (o + 6) σ (l_X7_follow o q1 N N x (nI 3000) σ) ∧ (l_X7_follow o q1 N N x (nI 3000) σ).2 = σ.2 ∧ CFr (l_X7_follow o q1 N N x (nI 3000) σ) (o + 5) 0 K c0 := by
  have d0 : dp K c0 0 = c0.1 := rfl
  have C0 : CFo K L F H c0 x (σ.1 o 3) (σ.1 o 4) 0 o q1 0 σ := ⟨hC, hn, h2, rfl, rfl, hd, by omega, fun z _ => hc z, fun z => absurd z (by decide), fun i hi => absurd hi (by omega)⟩
  obtain ⟨w1, w2, w3, -, k', y1, y2, y3, y4, y5⟩ := cl_follow (N := N) (M := 3000) hw (by omega) (by omega) hq 3000 0 σ (by omega) C0 N (by omega)
  exact ⟨w1, w2, w3, y5.cfr (by omega)⟩
theorem cl_ftask {o f v : Nat} {g : Nat → Int32} (hw : wfK K L F H) (hN : 8000 < N) (hq : q1 + 7 ≤ o ∨ o + 6 ≤ q1) (hC : CK σ q1 K L F) (hn : σ.2 (o + 1) 4 = 1000001) (hv : v < 4) (hf : f < F) (h3 : σ.1 (q1 + 3) v = nI f) (hg : ∀ i, i < 4 → σ.1 (q1 + 4) (v * 4 + i) = g i) : p_X7_followTask o q1 (nI v) N σ ∧ zfr o (o + 6) σ (s_X7_followTask o q1 (nI v) N σ) ∧ (s_X7_followTask o q1 (nI v) N σ).2 = σ.2 ∧ CFr (s_X7_followTask o q1 (nI v) N σ) (o + 5) 0 K (aBegin K f g) := by
  have hp4 := (hw.2.2.1 f hf).2.2
  have ef : f_X8_at 4 (q1 + 3) (nI v) σ = nI f := by rw [at_i hv (by decide), h3]
  have e4 : nI v * 4 = nI (v * 4) := by rw [show (4 : Int32) = nI 4 from rfl, pk_mul]
  obtain ⟨b1, b2, b3, b4⟩ := cls_begin_C (a := o + 1) (N := N) (n3 := 16) (q3 := q1 + 4) (fr := v * 4) (g := g) hw (show q1 + 7 ≤ o + 1 ∨ o + 1 + 4 ≤ q1 by omega) (by omega) (by omega) (by decide) (by omega) hC hf (fun i hi => hg i (by omega))
  have u1 : u_X7_followTask_1 o q1 (nI v) N σ = s_X0_begin (o + 1) q1 (nI f) 16 (q1 + 4) (nI (v * 4)) N σ := by
    unfold u_X7_followTask_1
    rw [ef, e4]
  generalize s_X0_begin (o + 1) q1 (nI f) 16 (q1 + 4) (nI (v * 4)) N σ = σ1 at b2 b3 b4 u1
  have u2 : u_X7_followTask_2 o q1 (nI v) N σ = zuI σ1 o 2 0 := by
    unfold u_X7_followTask_2
    rw [u1]
  have o2 : ∀ q j, ¬ (q = o ∧ j = 2) → (zuI σ1 o 2 0).1 q j = σ1.1 q j := fun q j z => gI_n (by omega)
  have k2 : (zuI σ1 o 2 0).1 o 2 = 0 := gI_h rfl rfl
  have r2 : (zuI σ1 o 2 0).2 = σ.2 := b3.1
  have f2 : zfr o (o + 6) σ (zuI σ1 o 2 0) := fun q hq1 => ⟨funext fun j => by rw [o2 _ _ (by omega)]; exact b3.2 _ _ (fun z => by unfold sA at z; omega), by rw [r2]⟩
  generalize zuI σ1 o 2 0 = σ2 at u2 o2 k2 r2 f2
  obtain ⟨w1, w2, w3, w4⟩ := cl_fol (σ := σ2) (N := N) (c0 := aBegin K f g) (x := nI f) hw hN hq ⟨fun i hi => ⟨(f2.at (by omega)).trans (hC.1 i hi).1, (f2.at (by omega)).trans (hC.1 i hi).2⟩, fun a ha => ⟨(f2.at (by omega)).trans (hC.2 a ha).1, (f2.at (by omega)).trans (hC.2 a ha).2⟩⟩ (by rw [r2]; exact hn) k2 ((o2 _ _ (by omega)).trans b2.1) (show 1 ≤ 60 by decide) (fun _ => ⟨ty_begin hw hf, by
    obtain ⟨y0, y1, y2, y3, y4, y5⟩ := b2
    exact ⟨(o2 _ _ (by omega)).trans y0, fun z => (o2 _ _ (by omega)).trans (y1 z), (o2 _ _ (by omega)).trans y2, fun j hj => (o2 _ _ (by omega)).trans (y3 j hj), fun k i a1 a2 hi => (o2 _ _ (by omega)).trans (y4 k i a1 a2 hi), fun k a1 a2 => (o2 _ _ (by omega)).trans (y5 k a1 a2)⟩⟩)
  have es : s_X7_followTask o q1 (nI v) N σ = l_X7_follow o q1 N N (nI f) (nI 3000) σ2 := by
    unfold s_X7_followTask u_X7_followTask_3 s_X7_follow
    rw [u2, ef]
    rfl
  rw [es]
  refine ⟨?_, f2.tr w2, w3.trans r2, w4⟩
  unfold p_X7_followTask p_X7_follow
  rw [u2, ef, e4]
  exact ⟨at_p (by decide), b1, w1⟩
theorem cl_cc {a s h : Nat} {c0 : aC} (hw : wfK K L F H) (hs : a + 4 ≤ s ∨ s + 4 ≤ a) (hd : σ.1 s 0 = nI c0.1) (d60 : c0.1 ≤ 60) (hh : h ≤ 1680) (h2 : σ.1 s 2 = nI h) (ty : tyC L H c0) (hc : CC σ s c0) : CC (s_X0_copyFrom a s σ) a c0 := by
  obtain ⟨b1, b2, b3, b4, b5, b6, b7, b8⟩ := cl_co (a := a) (b := s) d60 hh hd h2 hs
  obtain ⟨y0, y1, y2, y3, y4, y5⟩ := hc
  have h6 := tyC_h6 hw ty
  have eh : h = c0.2.2.2.2 := (nI_eq (by omega) (by omega)).mp (h2.symm.trans y2)
  exact ⟨(b2 0 (by omega)).trans y0, fun z => (b2 1 (by omega)).trans (y1 z), (b2 2 (by omega)).trans y2, fun j hj => (b6 j (by omega)).trans (y3 j hj), fun k i a1 a2 hi => (b4 _ (by omega)).trans (y4 k i a1 a2 hi), fun k a1 a2 => (b5 k (by omega)).trans (y5 k a1 a2)⟩
theorem cl_fo2 {o s h : Nat} {c0 : aC} (hw : wfK K L F H) (hs : o + 6 ≤ s ∨ s + 4 ≤ o) (hd : σ.1 s 0 = nI c0.1) (d60 : c0.1 ≤ 60) (hh : h ≤ 1680) (h2 : σ.1 s 2 = nI h) (hc : 1 ≤ c0.1 → tyC L H c0 ∧ CC σ s c0) : p_X0_copyFrom (o + 1) s σ ∧ ∃ σ2, zuI (s_X0_copyFrom (o + 1) s σ) o 2 0 = σ2 ∧ zfr o (o + 6) σ σ2 ∧ (∀ q j, ¬ (q = o + 1 ∧ j = 4) → σ2.2 q j = σ.2 q j) ∧ σ2.2 (o + 1) 4 = 1000001 ∧ σ2.1 o 2 = 0 ∧ σ2.1 (o + 1) 0 = nI c0.1 ∧ (1 ≤ c0.1 → tyC L H c0 ∧ CC σ2 (o + 1) c0) := by
  obtain ⟨b1, b2, b3, b4, b5, b6, b7, b8⟩ := cl_co (a := o + 1) (b := s) d60 hh hd h2 (by omega)
  have o2 : ∀ q j, ¬ (q = o ∧ j = 2) → (zuI (s_X0_copyFrom (o + 1) s σ) o 2 0).1 q j = (s_X0_copyFrom (o + 1) s σ).1 q j := fun q j z => gI_n (by omega)
  refine ⟨b1, _, rfl, fun q hq1 => ⟨funext fun j => (o2 _ _ (by omega)).trans (b7 _ _ (by omega)), funext fun j => b8 _ _ (by omega)⟩, b8, b3, gI_h rfl rfl, (o2 _ _ (by omega)).trans ((b2 0 (by omega)).trans hd), fun z => ?_⟩
  obtain ⟨ty, y⟩ := hc z
  obtain ⟨y0, y1, y2, y3, y4, y5⟩ := cl_cc (a := o + 1) hw (by omega) hd d60 hh h2 ty y
  exact ⟨ty, (o2 _ _ (by omega)).trans y0, fun z => (o2 _ _ (by omega)).trans (y1 z), (o2 _ _ (by omega)).trans y2, fun j hj => (o2 _ _ (by omega)).trans (y3 j hj), fun k i a1 a2 hi => (o2 _ _ (by omega)).trans (y4 k i a1 a2 hi), fun k a1 a2 => (o2 _ _ (by omega)).trans (y5 k a1 a2)⟩
theorem cl_fon {o s h : Nat} {c0 : aC} (hw : wfK K L F H) (hN : 8000 < N) (hq : q1 + 7 ≤ o ∨ o + 6 ≤ q1) (hs : o + 6 ≤ s ∨ s + 4 ≤ o) (hC : CK σ q1 K L F) (hd : σ.1 s 0 = nI c0.1) (d60 : c0.1 ≤ 60) (hh : h ≤ 1680) (h2 : σ.1 s 2 = nI h) (hc : 1 ≤ c0.1 → tyC L H c0 ∧ CC σ s c0) : p_X7_followOn o q1 s N σ ∧ zfr o (o + 6) σ (s_X7_followOn o q1 s N σ) ∧ (∀ q j, ¬ (q = o + 1 ∧ j = 4) → (s_X7_followOn o q1 s N σ).2 q j = σ.2 q j) ∧ (s_X7_followOn o q1 s N σ).2 (o + 1) 4 = 1000001 ∧ CFr (s_X7_followOn o q1 s N σ) (o + 5) 0 K c0 := by
  obtain ⟨b1, σ2, u2, f2, b8, b3, k2, d2, c2⟩ := cl_fo2 (o := o) hw hs hd d60 hh h2 hc
  obtain ⟨w1, w2, w3, w4⟩ := cl_fol (σ := σ2) (N := N) (c0 := c0) (x := -1) hw hN hq ⟨fun i hi => ⟨(f2.at (by omega)).trans (hC.1 i hi).1, (f2.at (by omega)).trans (hC.1 i hi).2⟩, fun a ha => ⟨(f2.at (by omega)).trans (hC.2 a ha).1, (f2.at (by omega)).trans (hC.2 a ha).2⟩⟩ b3 k2 d2 d60 c2
  have es : s_X7_followOn o q1 s N σ = l_X7_follow o q1 N N (-1) (nI 3000) (zuI (s_X0_copyFrom (o + 1) s σ) o 2 0) := rfl
  have ep : p_X7_followOn o q1 s N σ = (p_X0_copyFrom (o + 1) s σ ∧ q_X7_follow o q1 N N (-1) (nI 3000) (zuI (s_X0_copyFrom (o + 1) s σ) o 2 0)) := rfl
  rw [es, ep, u2]
  exact ⟨⟨b1, w1⟩, f2.tr w2, fun q j z => (congrFun (congrFun w3 q) j).trans (b8 q j z), (congrFun (congrFun w3 (o + 1)) 4).trans b3, w4⟩
end IS
