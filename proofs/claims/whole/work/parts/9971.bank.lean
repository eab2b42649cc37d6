/-! only the bank at hand matters -/
section IS
variable {q1 q2 B W n L F U U1 r p l N : Nat} {K : aK} {H tf rg : Nat → Nat} {gv : Nat → Nat → Int32} {σ σ1 σ2 τ τ1 τ2 : zS}
def bkB (B Q j : Nat) : Prop := (470 ≤ Q ∧ Q ≤ 478 ∧ j = B) ∨ ((Q = 480 ∨ Q = 481) ∧ 6 * B ≤ j ∧ j < 6 * B + 6) ∨ (Q = 482 ∧ 4 * B ≤ j ∧ j < 4 * B + 4) ∨ (Q = 483 ∧ 16 * B ≤ j ∧ j < 16 * B + 16) ∨ (Q = 484 ∧ 800 * B ≤ j ∧ j < 800 * B + 800)
theorem PK.bnk (h : PK σ q1 τ B K L F H n tf gv) (h1 : τ1.1 468 16 = τ.1 468 16) (h2 : ∀ Q j, bkB B Q j → τ1.1 Q j = τ.1 Q j) : PK σ q1 τ1 B K L F H n tf gv := by
  obtain ⟨b1, b2, ⟨c1, c2, c3, c4⟩, b4, b5⟩ := h
  have l4 := b1.1
  have f6 := b1.2.1
  refine ⟨b1, b2, ⟨c1, h1.trans c2, fun i hi => ⟨(h2 _ _ (by unfold bkB; omega)).trans (c3 i hi).1, (h2 _ _ (by unfold bkB; omega)).trans (c3 i hi).2⟩, fun f hf => ⟨(h2 _ _ (by unfold bkB; omega)).trans (c4 f hf).1, (h2 _ _ (by unfold bkB; omega)).trans (c4 f hf).2⟩⟩, b4, fun t ht => ?_⟩
  obtain ⟨d1, d2, d3, d4⟩ := b5 t ht
  exact ⟨d1, d2, (h2 _ _ (by unfold bkB; omega)).trans d3, fun i hi => ⟨(d4 i hi).1, (h2 _ _ (by unfold bkB; omega)).trans (d4 i hi).2⟩⟩
theorem PH.bnk (h : PH σ q1 τ B W n F) (h1 : ∀ j, σ1.1 q1 j = σ.1 q1 j) (h2 : ∀ Q j, bkB B Q j → τ1.1 Q j = τ.1 Q j) : PH σ1 q1 τ1 B W n F := by
  obtain ⟨a1, a2, a3, a4, ⟨y, k, y1, y2, y3, y4, y5, y6, y7⟩, ⟨s, s1, s2, s3, s4⟩, ⟨a, b, b1, b2, b3, b4, b5, b6⟩, a8, a9, a10, a11, a12⟩ := h
  have t : ∀ Q, 470 ≤ Q → Q ≤ 478 → τ1.1 Q B = τ.1 Q B := fun Q z1 z2 => h2 _ _ (Or.inl ⟨z1, z2, rfl⟩)
  exact ⟨a1, a2, (h1 _).trans a3, (t _ (by omega) (by omega)).trans a4, ⟨y, k, y1, y2, (h1 _).trans y3, (t _ (by omega) (by omega)).trans y4, (h1 _).trans y5, (t _ (by omega) (by omega)).trans y6, y7⟩, ⟨s, s1, s2, (h1 _).trans s3, (t _ (by omega) (by omega)).trans s4⟩, ⟨a, b, b1, b2, (h1 _).trans b3, (t _ (by omega) (by omega)).trans b4, (h1 _).trans b5, (t _ (by omega) (by omega)).trans b6⟩, (h1 _).trans a8, (t _ (by omega) (by omega)).trans a9, (h1 _).trans a10, (t _ (by omega) (by omega)).trans a11, by rw [h1, t _ (by omega) (by omega)]; exact a12⟩
theorem RW.bnk (h : RW q1 B W n K L F H tf gv U r σ τ) (h1 : τ1.1 468 16 = τ.1 468 16) (h2 : ∀ Q j, bkB B Q j → τ1.1 Q j = τ.1 Q j) (h3 : ∀ j, j < 11440 → τ1.1 469 j = τ.1 469 j) : RW q1 B W n K L F H tf gv U r σ τ1 := by
  obtain ⟨A, D, RS, TP, ST, C, T, M, E, ⟨a1, a2, a3, a4, a5, a6, a7, a8, a9, a10, a11, a12, a13, a14, a15, a16, a17, a18, a19, a20⟩, g2⟩ := h
  have t : ∀ Q, 470 ≤ Q → Q ≤ 478 → τ1.1 Q B = τ.1 Q B := fun Q z1 z2 => h2 _ _ (Or.inl ⟨z1, z2, rfl⟩)
  refine ⟨A, D, RS, TP, ST, C, T, M, E, ⟨a1, a2, a3, a4, a5, ⟨a6.1, h1.trans a6.2.1, (t _ (by omega) (by omega)).trans a6.2.2.1, (t _ (by omega) (by omega)).trans a6.2.2.2⟩, fun i hi => (h3 i (by omega)).trans (a7 i hi), a8, a9, a10, a11.bnk h1 h2, a12, a13, a14, fun v hv hv1 => ?_, fun v hv hv0 => ?_, a17, a18, a19, a20⟩, g2⟩
  · obtain ⟨z1, z2, ⟨y1, y2, y3, y4⟩, z4⟩ := a15 v hv hv1
    have hh := tyC_h a11.1 z2
    have h60 := z2.1.2
    exact ⟨z1, z2, ⟨fun k k1 k2 => (h3 _ (by omega)).trans (y1 k k1 k2), (h3 _ (by omega)).trans y2, fun j hj => (h3 _ (by omega)).trans (y3 j hj), fun k i k1 k2 hi => (h3 _ (by omega)).trans (y4 k i k1 k2 hi)⟩, z4⟩
  · have := a11.2.2.2.1
    exact ⟨(h3 _ (by omega)).trans (a16 v hv hv0).1, (a16 v hv hv0).2⟩
theorem bk_n {Q j : Nat} (h : bkB B Q j) : 470 ≤ Q ∧ Q ≤ 484 := by
  unfold bkB at h
  omega
/-- all but what a refused store may change -/
theorem IV.off (h : IV q1 q2 B W n K L F H tf gv p l rg U σ τ) (hs : ∀ Q j, ¬ (Q = 0 ∧ (j = 1 ∨ j = 3 ∨ j = 4)) → ¬ Q = 2 → ¬ Q = 3 → ¬ (12 ≤ Q ∧ Q ≤ 15) → ¬ (q2 ≤ Q ∧ Q ≤ q2 + 6) → σ1.1 Q j = σ.1 Q j) (hr : ∀ Q j, ¬ Q = 2 → ¬ Q = 3 → σ1.2 Q j = σ.2 Q j) (ht : ∀ Q j, (Q = 469 ∨ Q = 486 ∨ 492 ≤ Q ∨ bkB B Q j ∨ (Q = 468 ∧ (j = 16 ∨ j = 55 ∨ j = 56))) → τ1.1 Q j = τ.1 Q j) (hp : TPE σ1 τ1) (hf : σ1.1 0 3 = τ1.1 468 27 ∧ σ1.1 0 4 = τ1.1 468 28) : IV q1 q2 B W n K L F H tf gv p l rg U σ1 τ1 := by
  obtain ⟨a1, a2, a3, a4, a5, a6, a7, a8, a9, a10, a11, a12⟩ := h
  have s1 : ∀ Q j, (30 ≤ Q ∨ (q1 ≤ Q ∧ Q < q1 + 7)) → σ1.1 Q j = σ.1 Q j := fun Q j y => hs Q j (by omega) (by omega) (by omega) (by omega) (by omega)
  have s2 : ∀ Q j, (30 ≤ Q ∨ Q = 0) → σ1.2 Q j = σ.2 Q j := fun Q j y => hr Q j (by omega) (by omega)
  have tb : ∀ Q j, bkB B Q j → τ1.1 Q j = τ.1 Q j := fun Q j y => ht Q j (Or.inr (Or.inr (Or.inr (Or.inl y))))
  have t16 : τ1.1 468 16 = τ.1 468 16 := ht _ _ (Or.inr (Or.inr (Or.inr (Or.inr (by omega)))))
  have tw1 : ∀ Q o τ2, 492 ≤ Q → ∀ r, RW q1 B W n K L F H tf gv U r τ2 (tw τ Q o) → RW q1 B W n K L F H tf gv U r τ2 (tw τ1 Q o) := fun Q o τ2 hQ r g => by
    refine g.bnk ?_ (fun a j z => ?_) (fun j hj => ?_)
    · rw [tw_o (by decide), tw_o (by decide)]; exact t16
    · have := bk_n z
      rw [tw_o (by omega), tw_o (by omega)]; exact tb _ _ z
    · rw [tw_h, tw_h]; exact ht _ _ (Or.inr (Or.inr (Or.inl hQ)))
  refine ⟨a1, (s2 _ _ (by omega)).trans a2, (s2 _ _ (by omega)).trans a3, t16.trans a4, a5.bnk (fun j => s1 _ _ (by omega)) tb, (a6.bnk t16 tb).eq (fun Q j z1 z2 => s1 _ _ (by omega)), ?_, fun b hb => ⟨?_, fun z => ?_⟩, ⟨fun b hb => (s2 _ _ (by omega)).trans (a9.1 b hb), fun v hv => (s2 _ _ (by omega)).trans (a9.2.1 v hv), fun b hb v hv => (s2 _ _ (by omega)).trans (a9.2.2.1 b hb v hv), fun i hi => ⟨(s2 _ _ (by omega)).trans (a9.2.2.2.1 i hi).1, (s2 _ _ (by omega)).trans (a9.2.2.2.1 i hi).2⟩, (s2 _ _ (by omega)).trans a9.2.2.2.2⟩, hp, hf, fun i hi => (ht _ _ (Or.inr (Or.inl rfl))).trans (a12 i hi)⟩
  · obtain ⟨h1, h2, h3, h4, h5, h6, h7, h8, h9, h10, h11, h12⟩ := a7
    have sg : ∀ k τ2, k < 13 → RW q1 B W n K L F H tf gv U (rg k) σ τ2 → RW q1 B W n K L F H tf gv U (rg k) σ1 τ2 := fun k τ2 hk g => by
      obtain ⟨c, c1, c2⟩ := h6 k hk
      exact g.sig (fun q j z => s1 _ _ (by omega)) (fun q j z1 z2 => s2 _ _ (by omega))
    refine ⟨h1, (s1 _ _ (by omega)).trans h2, (s1 _ _ (by omega)).trans h3, (ht _ _ (Or.inr (Or.inr (Or.inr (Or.inr (by omega)))))).trans h4, (ht _ _ (Or.inr (Or.inr (Or.inr (Or.inr (by omega)))))).trans h5, h6, h7, fun i hi => (s2 _ _ (by omega)).trans (h8 i hi), fun i hi v hv => ?_, ?_, fun k hk => tw1 _ _ _ (by omega) _ (sg k _ (by omega) (h11 k hk)), fun k k1 k2 => tw1 _ _ _ (by omega) _ (sg k _ (by omega) (h12 k k1 k2))⟩
    · obtain ⟨c, c1, c2⟩ := h6 i hi
      rw [s2 _ _ (by omega)]
      exact h9 i hi v hv
    · exact (sg p _ (by omega) h10).bnk t16 tb (fun j hj => ht _ _ (Or.inl rfl))
  · rw [s1 _ _ (by omega), ht _ _ (Or.inr (Or.inr (Or.inl (by omega))))]
    exact (a8 b hb).1
  · rw [s1 _ _ (by omega)] at z
    exact tw1 _ _ _ (by omega) _ (((a8 b hb).2 z).sig (fun q j z => s1 _ _ (by omega)) (fun q j z1 z2 => s2 _ _ (by omega)))
end IS
