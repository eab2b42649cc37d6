/-! what holds of both objects between two calls -/
def CL (σ : zS) : Prop := (∀ b, b < 2 → σ.2 357 b = 394 + 25 * b + 1) ∧ (∀ v, v < 4 → σ.2 (359 + 4) v = 359 + 5 + 5 * v + 1) ∧ (∀ b, b < 2 → ∀ v, v < 4 → σ.2 (394 + 25 * b + 4) v = 394 + 25 * b + 5 + 5 * v + 1) ∧ (∀ i, i < 4 → σ.2 390 i = 444 + 6 * i + 1 ∧ σ.2 (444 + 6 * i + 1) 4 = 1000001) ∧ σ.2 385 4 = 1000001
def sgnB (b : Nat) : Int32 := if b < 128 then nI b else nI b - 256
def TPE (σ τ : zS) : Prop := ∃ nt, nt ≤ 1000 ∧ σ.1 0 1 = nI nt ∧ τ.1 468 18 = nI nt ∧ ∀ i, i < nt → ∃ b, b < 256 ∧ σ.1 1 i = nI b ∧ τ.1 485 i = sgnB b
def ltrs : List Nat := [119, 105, 110, 100, 111, 119, 115, 32, 104, 97, 110, 100, 108, 101, 114, 32, 115, 108, 105, 99, 101, 32, 112, 114, 105, 99, 101, 32, 100, 101, 102, 32, 116, 97, 115, 107, 32, 115, 105, 110, 103, 108, 101, 32, 102, 105, 120, 101, 100, 32, 99, 111, 117, 110, 116, 101, 114, 32, 100, 111, 117, 98, 108, 101, 32, 105, 102, 32, 116, 104, 101, 110, 32, 101, 108, 115, 101, 32]
def LTE (τ : zS) : Prop := ∀ i, i < 78 → τ.1 486 i = nI (ltrs.getD i 0)
def BXE (q1 B W n : Nat) (K : aK) (L F : Nat) (H tf : Nat → Nat) (gv : Nat → Nat → Int32) (U : Nat) (σ τ : zS) : Prop := ∀ b, b < 2 → σ.1 358 b = τ.1 500 b ∧ (¬ σ.1 358 b = 0 → RW q1 B W n K L F H tf gv U (394 + 25 * b) σ (tw τ 499 (11440 * b)))
def IV (q1 q2 B W n : Nat) (K : aK) (L F : Nat) (H tf : Nat → Nat) (gv : Nat → Nat → Int32) (p l : Nat) (rg : Nat → Nat) (U : Nat) (σ τ : zS) : Prop := ((q1 = 16 ∧ q2 = 23) ∨ (q1 = 23 ∧ q2 = 16)) ∧ σ.2 0 5 = q1 + 1 ∧ σ.2 0 6 = q2 + 1 ∧ τ.1 468 16 = nI B ∧ PH σ q1 τ B W n F ∧ PK σ q1 τ B K L F H n tf gv ∧ HH q1 B W n K L F H tf gv U p l rg σ τ ∧ BXE q1 B W n K L F H tf gv U σ τ ∧ CL σ ∧ TPE σ τ ∧ (σ.1 0 3 = τ.1 468 27 ∧ σ.1 0 4 = τ.1 468 28) ∧ LTE τ
def Inv (U : Nat) (σ τ : zS) : Prop := ∃ (q1 q2 B W n : Nat) (K : aK) (L F : Nat) (H tf : Nat → Nat) (gv : Nat → Nat → Int32) (p l : Nat) (rg : Nat → Nat), IV q1 q2 B W n K L F H tf gv p l rg U σ τ
theorem lay_pr {q : Nat} (h : q = 16 ∨ q = 23) : zlay q = (2, 16) := by
  rcases h with rfl | rfl <;> decide
section IS
variable {q1 q2 B W n L F U U1 r p l N : Nat} {K : aK} {H tf rg : Nat → Nat} {gv : Nat → Nat → Int32} {σ σ1 τ τ1 : zS}
theorem IV.pr (h : IV q1 q2 B W n K L F H tf gv p l rg U σ τ) : (σ.2 0 5 - 1 = q1) ∧ (σ.2 0 5 ≠ 0 ∧ zlay (σ.2 0 5 - 1) = (2, 16)) ∧ (q1 = 16 ∨ q1 = 23) := by
  have e : σ.2 0 5 - 1 = q1 := by rw [h.2.1]; rfl
  have hq : q1 = 16 ∨ q1 = 23 := by have := h.1; omega
  exact ⟨e, ⟨by rw [h.2.1]; omega, by rw [e]; exact lay_pr hq⟩, hq⟩
theorem PH.eq (h : PH σ q1 τ B W n F) (h1 : ∀ j, σ1.1 q1 j = σ.1 q1 j) (h2 : ∀ q j, 470 ≤ q → q ≤ 478 → τ1.1 q j = τ.1 q j) : PH σ1 q1 τ1 B W n F := by
  obtain ⟨a1, a2, a3, a4, ⟨y, k, y1, y2, y3, y4, y5, y6, y7⟩, ⟨s, s1, s2, s3, s4⟩, ⟨a, b, b1, b2, b3, b4, b5, b6⟩, a8, a9, a10, a11, a12⟩ := h
  exact ⟨a1, a2, (h1 _).trans a3, (h2 _ _ (by omega) (by omega)).trans a4, ⟨y, k, y1, y2, (h1 _).trans y3, (h2 _ _ (by omega) (by omega)).trans y4, (h1 _).trans y5, (h2 _ _ (by omega) (by omega)).trans y6, y7⟩, ⟨s, s1, s2, (h1 _).trans s3, (h2 _ _ (by omega) (by omega)).trans s4⟩, ⟨a, b, b1, b2, (h1 _).trans b3, (h2 _ _ (by omega) (by omega)).trans b4, (h1 _).trans b5, (h2 _ _ (by omega) (by omega)).trans b6⟩, (h1 _).trans a8, (h2 _ _ (by omega) (by omega)).trans a9, (h1 _).trans a10, (h2 _ _ (by omega) (by omega)).trans a11, by rw [h1, h2 _ _ (by omega) (by omega)]; exact a12⟩
theorem PK.eq2 (h : PK σ q1 τ B K L F H n tf gv) (h0 : τ1.1 468 16 = τ.1 468 16) (h1 : ∀ q j, q1 ≤ q → q < q1 + 7 → σ1.1 q j = σ.1 q j) (h2 : ∀ q j, 480 ≤ q → q ≤ 484 → τ1.1 q j = τ.1 q j) : PK σ1 q1 τ1 B K L F H n tf gv := by
  obtain ⟨b1, b2, ⟨c1, c2, c3, c4⟩, b4, b5⟩ := h
  refine PK.eq (σ := σ) ⟨b1, b2, ⟨c1, h0.trans c2, fun i hi => ⟨(h2 _ _ (by omega) (by omega)).trans (c3 i hi).1, (h2 _ _ (by omega) (by omega)).trans (c3 i hi).2⟩, fun f hf => ⟨(h2 _ _ (by omega) (by omega)).trans (c4 f hf).1, (h2 _ _ (by omega) (by omega)).trans (c4 f hf).2⟩⟩, b4, fun t ht => ?_⟩ h1
  obtain ⟨d1, d2, d3, d4⟩ := b5 t ht
  exact ⟨d1, d2, (h2 _ _ (by omega) (by omega)).trans d3, fun i hi => ⟨(d4 i hi).1, (h2 _ _ (by omega) (by omega)).trans (d4 i hi).2⟩⟩
/-- what the class works with aside -/
def scC (q : Nat) : Prop := (359 ≤ q ∧ q < 394) ∨ (444 ≤ q ∧ q < 468)
def scM (q j : Nat) : Prop := (q = 469 ∧ ((216 ≤ j ∧ j < 236) ∨ 11440 ≤ j)) ∨ (492 ≤ q ∧ q ≤ 497) ∨ (q = 468 ∧ 41 ≤ j ∧ j ≤ 48)
theorem RW.pl (h : RW q1 B W n K L F H tf gv U r σ τ) (h1 : τ1.1 468 16 = τ.1 468 16) (h2 : ∀ q j, (q = 470 ∨ q = 477 ∨ (480 ≤ q ∧ q ≤ 484)) → τ1.1 q j = τ.1 q j) (h3 : ∀ j, (j < 216 ∨ 236 ≤ j) → j < 11440 → τ1.1 469 j = τ.1 469 j) : RW q1 B W n K L F H tf gv U r σ τ1 := by
  obtain ⟨A, D, RS, TP, ST, C, T, M, E, g1, g2, g3, ⟨s, s1, s2, s3⟩, a, b, a1, b1, a2, b2⟩ := h
  have ao : ∀ i, i < 216 → rowA τ1 A i = A i := fun i hi => rowA_o g1.2.2.2.2.2.2.1 (fun _ => h3 i (Or.inl hi) (by omega))
  exact ⟨rowA τ1 A, D, RS, TP, ST, C, T, M, E, g1.pl h1 h2 h3, g2, (ao 0 (by omega)).trans g3, ⟨s, s1, s2, (ao 5 (by omega)).trans s3⟩, a, b, a1, b1, (ao 8 (by omega)).trans a2, (ao 9 (by omega)).trans b2⟩
theorem IV.scr (h : IV q1 q2 B W n K L F H tf gv p l rg U σ τ) (hs : ∀ q, ¬ scC q → σ1.1 q = σ.1 q ∧ σ1.2 q = σ.2 q) (hc : CL σ1) (ht : ∀ q j, ¬ scM q j → τ1.1 q j = τ.1 q j) : IV q1 q2 B W n K L F H tf gv p l rg U σ1 τ1 := by
  have hq := h.pr.2.2
  obtain ⟨a1, a2, a3, a4, a5, a6, a7, a8, a9, ⟨nt, t1, t2, t3, t4⟩, a11, a12⟩ := h
  have s1 : ∀ q j, ¬ ((359 ≤ q ∧ q < 394) ∨ (444 ≤ q ∧ q < 468)) → σ1.1 q j = σ.1 q j := fun q j z => congrFun (hs q z).1 j
  have s2 : ∀ q j, ¬ ((359 ≤ q ∧ q < 394) ∨ (444 ≤ q ∧ q < 468)) → σ1.2 q j = σ.2 q j := fun q j z => congrFun (hs q z).2 j
  have m1 : ∀ q j, ¬ ((q = 469 ∧ ((216 ≤ j ∧ j < 236) ∨ 11440 ≤ j)) ∨ (492 ≤ q ∧ q ≤ 497) ∨ (q = 468 ∧ 41 ≤ j ∧ j ≤ 48)) → τ1.1 q j = τ.1 q j := fun q j z => ht q j z
  refine ⟨a1, (s2 _ _ (by omega)).trans a2, (s2 _ _ (by omega)).trans a3, (m1 _ _ (by omega)).trans a4, a5.eq (fun j => s1 _ _ (by omega)) (fun q j z1 z2 => m1 _ _ (by omega)), a6.eq2 (m1 _ _ (by omega)) (fun q j z1 z2 => s1 _ _ (by omega)) (fun q j z1 z2 => m1 _ _ (by omega)), ?_, fun b hb => ⟨?_, fun z => ?_⟩, hc, ⟨nt, t1, (s1 _ _ (by omega)).trans t2, (m1 _ _ (by omega)).trans t3, fun i hi => ?_⟩, ⟨?_, ?_⟩, fun i hi => (m1 _ _ (by omega)).trans (a12 i hi)⟩
  · obtain ⟨h1, h2, h3, h4, h5, h6, h7, h8, h9, h10, h11, h12⟩ := a7
    have sg : ∀ k τ2, k < 13 → RW q1 B W n K L F H tf gv U (rg k) σ τ2 → RW q1 B W n K L F H tf gv U (rg k) σ1 τ2 := fun k τ2 hk g => by
      obtain ⟨c, c1, c2⟩ := h6 k hk
      exact g.sig (fun q j z => s1 _ _ (by omega)) (fun q j z1 z2 => s2 _ _ (by omega))
    have mv : ∀ k o, k < 13 → RW q1 B W n K L F H tf gv U (rg k) σ (tw τ 498 o) → RW q1 B W n K L F H tf gv U (rg k) σ1 (tw τ1 498 o) := fun k o hk g => by
      refine (sg k _ hk g).tau ?_ (fun q j z => ?_) (fun j hj => ?_)
      · rw [tw_o (by decide), tw_o (by decide)]; exact m1 _ _ (by omega)
      · rw [tw_o (by omega), tw_o (by omega)]; exact m1 _ _ (by omega)
      · rw [tw_h, tw_h]; exact m1 _ _ (by omega)
    refine ⟨h1, (s1 _ _ (by omega)).trans h2, (s1 _ _ (by omega)).trans h3, (m1 _ _ (by omega)).trans h4, (m1 _ _ (by omega)).trans h5, h6, h7, fun i hi => (s2 _ _ (by omega)).trans (h8 i hi), fun i hi v hv => ?_, ?_, fun k hk => mv k _ (by omega) (h11 k hk), fun k k1 k2 => mv k _ (by omega) (h12 k k1 k2)⟩
    · obtain ⟨c, c1, c2⟩ := h6 i hi
      rw [s2 _ _ (by omega)]
      exact h9 i hi v hv
    · exact (sg p _ (by omega) h10).pl (m1 _ _ (by omega)) (fun q j z => m1 _ _ (by omega)) (fun j z1 z2 => m1 _ _ (by omega))
  · rw [s1 _ _ (by omega), m1 _ _ (by omega)]
    exact (a8 b hb).1
  · rw [s1 _ _ (by omega)] at z
    refine (((a8 b hb).2 z).sig (fun q j z => s1 _ _ (by omega)) (fun q j z1 z2 => s2 _ _ (by omega))).tau ?_ (fun q j z => ?_) (fun j hj => ?_)
    · rw [tw_o (by decide), tw_o (by decide)]; exact m1 _ _ (by omega)
    · rw [tw_o (by omega), tw_o (by omega)]; exact m1 _ _ (by omega)
    · rw [tw_h, tw_h]; exact m1 _ _ (by omega)
  · obtain ⟨b, b1, b2, b3⟩ := t4 i hi
    exact ⟨b, b1, (s1 _ _ (by omega)).trans b2, (m1 _ _ (by omega)).trans b3⟩
  · rw [s1 _ _ (by omega), m1 _ _ (by omega)]
    exact a11.1
  · rw [s1 _ _ (by omega), m1 _ _ (by omega)]
    exact a11.2
/-- the history alone has changed -/
theorem IV.his {p1 l1 : Nat} {rg1 : Nat → Nat} (h : IV q1 q2 B W n K L F H tf gv p l rg U σ τ) (hu : U ≤ U1) (hh : HH q1 B W n K L F H tf gv U1 p1 l1 rg1 σ1 τ1) (hs : zfr 30 357 σ σ1) (ht : ∀ q j, ¬ q = 469 → ¬ q = 498 → ¬ (492 ≤ q ∧ q ≤ 497) → ¬ (q = 468 ∧ ((41 ≤ j ∧ j ≤ 48) ∨ j = 55 ∨ j = 56)) → τ1.1 q j = τ.1 q j) : IV q1 q2 B W n K L F H tf gv p1 l1 rg1 U1 σ1 τ1 := by
  have hq := h.pr.2.2
  obtain ⟨a1, a2, a3, a4, a5, a6, a7, a8, a9, ⟨nt, t1, t2, t3, t4⟩, a11, a12⟩ := h
  refine ⟨a1, (hs.at2 (by omega)).trans a2, (hs.at2 (by omega)).trans a3, (ht _ _ (by omega) (by omega) (by omega) (by omega)).trans a4, a5.eq (fun j => hs.at (by omega)) (fun q j z1 z2 => ht _ _ (by omega) (by omega) (by omega) (by omega)), a6.eq2 (ht _ _ (by omega) (by omega) (by omega) (by omega)) (fun q j z1 z2 => hs.at (by omega)) (fun q j z1 z2 => ht _ _ (by omega) (by omega) (by omega) (by omega)), hh, fun b hb => ⟨?_, fun z => ?_⟩, ⟨fun b hb => (hs.at2 (by omega)).trans (a9.1 b hb), fun v hv => (hs.at2 (by omega)).trans (a9.2.1 v hv), fun b hb v hv => (hs.at2 (by omega)).trans (a9.2.2.1 b hb v hv), fun i hi => ⟨(hs.at2 (by omega)).trans (a9.2.2.2.1 i hi).1, (hs.at2 (by omega)).trans (a9.2.2.2.1 i hi).2⟩, (hs.at2 (by omega)).trans a9.2.2.2.2⟩, ⟨nt, t1, (hs.at (by omega)).trans t2, (ht _ _ (by omega) (by omega) (by omega) (by omega)).trans t3, fun i hi => ?_⟩, ⟨?_, ?_⟩, fun i hi => (ht _ _ (by omega) (by omega) (by omega) (by omega)).trans (a12 i hi)⟩
  · rw [hs.at (by omega), ht _ _ (by omega) (by omega) (by omega) (by omega)]
    exact (a8 b hb).1
  · rw [hs.at (by omega)] at z
    refine ((((a8 b hb).2 z).up hu).sig (fun q j z => hs.at (by omega)) (fun q j z1 z2 => hs.at2 (by omega))).tau ?_ (fun q j z => ?_) (fun j hj => ?_)
    · rw [tw_o (by decide), tw_o (by decide)]; exact ht _ _ (by omega) (by omega) (by omega) (by omega)
    · rw [tw_o (by omega), tw_o (by omega)]; exact ht _ _ (by omega) (by omega) (by omega) (by omega)
    · rw [tw_h, tw_h]; exact ht _ _ (by omega) (by omega) (by omega) (by omega)
  · obtain ⟨b, b1, b2, b3⟩ := t4 i hi
    exact ⟨b, b1, (hs.at (by omega)).trans b2, (ht _ _ (by omega) (by omega) (by omega) (by omega)).trans b3⟩
  · rw [hs.at (by omega), ht _ _ (by omega) (by omega) (by omega) (by omega)]
    exact a11.1
  · rw [hs.at (by omega), ht _ _ (by omega) (by omega) (by omega) (by omega)]
    exact a11.2
theorem IV.up (h : IV q1 q2 B W n K L F H tf gv p l rg U σ τ) (hu : U ≤ U1) : IV q1 q2 B W n K L F H tf gv p l rg U1 σ τ := by
  refine h.his hu ?_ zfr.rf (fun _ _ _ _ _ _ => rfl)
  obtain ⟨h1, h2, h3, h4, h5, h6, h7, h8, h9, h10, h11, h12⟩ := h.2.2.2.2.2.2.1
  exact ⟨h1, h2, h3, h4, h5, h6, h7, h8, h9, h10.up hu, fun k hk => (h11 k hk).up hu, fun k k1 k2 => (h12 k k1 k2).up hu⟩
theorem Inv.up (h : Inv U σ τ) (hu : U ≤ U1) : Inv U1 σ τ := by
  obtain ⟨q1, q2, B, W, n, K, L, F, H, tf, gv, p, l, rg, h⟩ := h
  exact ⟨q1, q2, B, W, n, K, L, F, H, tf, gv, p, l, rg, h.up hu⟩
/-! the ring at hand -/
theorem IV.get (h : IV q1 q2 B W n K L F H tf gv p l rg U σ τ) : ∃ (A : Nat → Int32) (D RS TP ST : Nat → Nat) (C : Nat → aC) (T M E : Nat), f_X1_now σ = rg p ∧ p_X1_now σ ∧ (∃ c, c < 13 ∧ rg p = 32 + 25 * c) ∧ RX 0 1 0 (rg p) q1 B W n K L F H tf gv 0 0 0 T M σ τ A D RS TP ST C ∧ (T ≤ 4 * E ∧ M ≤ 37 * E ∧ E ≤ U ∧ ∀ v, n ≤ v → v < 4 → ST v = 0) ∧ A 0 = nI E ∧ (∃ s, 1 ≤ s ∧ s ≤ 50 ∧ A 5 = nI s) ∧ ∃ a b, a ≤ 99 ∧ b ≤ 99 ∧ A 8 = nI a ∧ A 9 = nI b := by
  have hh := h.2.2.2.2.2.2.1
  obtain ⟨A, D, RS, TP, ST, C, T, M, E, g⟩ := hh.2.2.2.2.2.2.2.2.2.1
  have hp := hh.1
  exact ⟨A, D, RS, TP, ST, C, T, M, E, hh.now.1, hh.now.2, hh.2.2.2.2.2.1 p (by omega), g⟩
theorem inN {x : Int32} {n : Nat} (hn : n ≤ 1000) : (f_X9_isIn x 0 (nI n - 1) = 0 ∧ (x < 0 ∨ (¬ x < 0 ∧ nI n ≤ x))) ∨ ∃ j, j < n ∧ x = nI j ∧ f_X9_isIn x 0 (nI n - 1) = 1 := by
  unfold f_X9_isIn
  rcases pk_ix x (n := n) (by omega) with h | h | ⟨j, hj, rfl⟩
  · exact Or.inl ⟨if_pos h, Or.inl h⟩
  · by_cases c : x < 0
    · exact Or.inl ⟨if_pos c, Or.inl c⟩
    · refine Or.inl ⟨?_, Or.inr ⟨c, h⟩⟩
      rw [if_neg c]
      refine if_pos ?_
      rcases Nat.eq_zero_or_pos n with e | e
      · rw [e]
        exact Int32.lt_of_lt_of_le (show nI 0 - 1 < 0 by decide) (Int32.not_lt.mp c)
      · rw [nI_s1 e]
        exact Int32.lt_of_lt_of_le (nI_lt (by omega) (by omega)) h
  · refine Or.inr ⟨j, hj, rfl, ?_⟩
    rw [if_neg (nI_pos (by omega)), nI_s1 (by omega), if_neg (nI_nlt (by omega) (by omega))]
theorem isT {x : Int32} (h : IV q1 q2 B W n K L F H tf gv p l rg U σ τ) : p_X8_isTask x σ ∧ p_X9_isTask x τ ∧ ((f_X8_isTask x σ = 0 ∧ f_X9_isTask x τ = 0) ∨ ∃ t, t < n ∧ x = nI t ∧ f_X8_isTask x σ = 1 ∧ f_X9_isTask x τ = 1) := by
  have hpr := h.pr
  obtain ⟨a1, a2, a3, a4, a5, a6, -⟩ := h
  have hB := a5.2.1
  have h7 : σ.1 q1 7 = nI n := a5.2.2.2.2.2.2.2.2.2.1
  have m7 : τ.1 477 B = nI n := a5.2.2.2.2.2.2.2.2.2.2.1
  have n4 := a6.2.2.2.1
  have em : f_X9_many τ = nI n := by
    unfold f_X9_many
    rw [a4, nI_clamp (by omega), m7]
  have pm : p_X9_many τ := by
    unfold p_X9_many
    rw [a4]
    exact vp_in_nI hB (by decide)
  refine ⟨fun _ => hpr.2.1, pm, ?_⟩
  unfold f_X8_isTask f_X9_isTask
  rw [hpr.1, h7, em]
  rcases inN (x := x) (n := n) (by omega) with ⟨e, e1 | ⟨e0, e1⟩⟩ | ⟨j, hj, rfl, e⟩
  · exact Or.inl ⟨if_pos e1, e⟩
  · exact Or.inl ⟨by rw [if_neg e0, if_pos e1], e⟩
  · exact Or.inr ⟨j, hj, rfl, by rw [if_neg (nI_pos (by omega)), if_neg (nI_ge hj (by omega))], e⟩
end IS
