/-! the head of a line: what holds there, and how it goes on -/
section IS
variable {N nb q b : Nat} {tx : Nat → Nat} {σ σ1 σ2 τ τ1 τ2 : zS} {K : aK} {H : Nat → Nat}
theorem LFn.eq {nf L u : Nat} {fa fl : Nat → Nat} (h : LFn nb q b nf fa fl K H L u σ τ) (c : ∀ Q j, (Q = 12 ∨ Q = 13 ∨ (Q = q ∧ (j = 6 ∨ j = 8 ∨ j = 9)) ∨ Q = q + 1 ∨ Q = q + 2 ∨ Q = q + 5 ∨ Q = q + 6) → σ1.1 Q j = σ.1 Q j) (t : ∀ Q j, (Q = 476 ∨ (478 ≤ Q ∧ Q ≤ 481) ∨ Q = 484 ∨ Q = 487 ∨ Q = 488) → τ1.1 Q j = τ.1 Q j) : LFn nb q b nf fa fl K H L u σ1 τ1 := by
  obtain ⟨hF, ⟨h6, h76⟩, ⟨hu1, hu2, hu3⟩, hC, hM, hLu, hfn, hwf⟩ := h
  refine ⟨⟨hF.1, fun i hi => ?_⟩, ⟨(c _ _ (by omega)).trans h6, (t _ _ (by omega)).trans h76⟩, ⟨(c _ _ (by omega)).trans hu1, (t _ _ (by omega)).trans hu2, hu3⟩, hC.eq (fun Q j y => c _ _ (by omega)), hM.eq (fun Q j y => t _ _ (by omega)), hLu, fun f hf => ?_, hwf⟩
  · obtain ⟨x0, x1, x2, x3, x4⟩ := hF.2 i hi
    exact ⟨x0, (c _ _ (by omega)).trans x1, (c _ _ (by omega)).trans x2, (t _ _ (by omega)).trans x3, (t _ _ (by omega)).trans x4⟩
  · obtain ⟨r1, r2, r3, r4, r5, r6, r7⟩ := hfn f hf
    exact ⟨r1, r2, r3, (c _ _ (by omega)).trans r4, (t _ _ (by omega)).trans r5, (c _ _ (by omega)).trans r6, (t _ _ (by omega)).trans r7⟩
/-- windows, handler, slice, prices -/
def LPv (q b : Nat) (σ τ : zS) : Prop := (∃ x, 2 ≤ x ∧ x ≤ 12 ∧ σ.1 q 0 = nI x ∧ τ.1 470 b = nI x) ∧ WV q b σ τ ∧ (∃ x, 1 ≤ x ∧ x ≤ 50 ∧ σ.1 q 3 = nI x ∧ τ.1 473 b = nI x) ∧ ∃ x y, x ≤ 99 ∧ y ≤ 99 ∧ σ.1 q 4 = nI x ∧ τ.1 474 b = nI x ∧ σ.1 q 5 = nI y ∧ τ.1 475 b = nI y
theorem LPv.eq (h : LPv q b σ τ) (c : ∀ j, j ≤ 5 → σ1.1 q j = σ.1 q j) (t : ∀ Q, 470 ≤ Q → Q ≤ 475 → τ1.1 Q b = τ.1 Q b) : LPv q b σ1 τ1 := by
  obtain ⟨⟨x, a1, a2, a3, a4⟩, ⟨y, k, b1, b2, b3, b4, b5, b6, b7, b8⟩, ⟨z, c1, c2, c3, c4⟩, ⟨p, r, d1, d2, d3, d4, d5, d6⟩⟩ := h
  exact ⟨⟨x, a1, a2, (c _ (by omega)).trans a3, (t _ (by omega) (by omega)).trans a4⟩, ⟨y, k, b1, b2, (c _ (by omega)).trans b3, (t _ (by omega) (by omega)).trans b4, (c _ (by omega)).trans b5, (t _ (by omega) (by omega)).trans b6, b7, b8⟩, ⟨z, c1, c2, (c _ (by omega)).trans c3, (t _ (by omega) (by omega)).trans c4⟩, ⟨p, r, d1, d2, (c _ (by omega)).trans d3, (t _ (by omega) (by omega)).trans d4, (c _ (by omega)).trans d5, (t _ (by omega) (by omega)).trans d6⟩⟩
/-- the tasks told so far -/
def LK (q b nf n : Nat) (tf : Nat → Nat) (gv : Nat → Nat → Int32) (σ τ : zS) : Prop := (σ.1 q 7 = nI n ∧ τ.1 477 b = nI n ∧ n ≤ 4) ∧ (∀ t, t < n → tf t < nf ∧ σ.1 (q + 3) t = nI (tf t) ∧ τ.1 482 (4 * b + t) = nI (tf t) ∧ ∀ i, i < 4 → σ.1 (q + 4) (t * 4 + i) = gv t i ∧ τ.1 483 (4 * (4 * b + t) + i) = gv t i) ∧ ∀ t, n ≤ t → t < 4 → ∀ i, i < 4 → σ.1 (q + 4) (t * 4 + i) = 0
theorem LK.eq {nf nf1 n : Nat} {tf : Nat → Nat} {gv : Nat → Nat → Int32} (h : LK q b nf n tf gv σ τ) (hf : nf ≤ nf1) (c : ∀ Q j, ((Q = q ∧ j = 7) ∨ Q = q + 3 ∨ Q = q + 4) → σ1.1 Q j = σ.1 Q j) (t : ∀ Q j, (Q = 477 ∨ Q = 482 ∨ Q = 483) → τ1.1 Q j = τ.1 Q j) : LK q b nf1 n tf gv σ1 τ1 := by
  obtain ⟨⟨a1, a2, a3⟩, a4, a5⟩ := h
  refine ⟨⟨(c _ _ (by omega)).trans a1, (t _ _ (by omega)).trans a2, a3⟩, fun k hk => ?_, fun k h1 h2 i hi => (c _ _ (by omega)).trans (a5 k h1 h2 i hi)⟩
  obtain ⟨x1, x2, x3, x4⟩ := a4 k hk
  exact ⟨by omega, (c _ _ (by omega)).trans x2, (t _ _ (by omega)).trans x3, fun i hi => ⟨(c _ _ (by omega)).trans (x4 i hi).1, (t _ _ (by omega)).trans (x4 i hi).2⟩⟩
def LHD (nb : Nat) (tx : Nat → Nat) (q b s e kd v w : Nat) (σ τ : zS) : Prop := ∃ m nf fa fl K H L u n tf gv, LNb nb tx q b m s e kd v w σ τ ∧ LFn nb q b nf fa fl K H L u σ τ ∧ σ.1 2 6 = -1 ∧ LPv q b σ τ ∧ (nI m &&& nI (2 ^ 1) = 0 → τ.1 472 b = 0) ∧ LK q b nf n tf gv σ τ
/-- what a line leaves, whatever it is -/
def sLc (q Q j : Nat) : Prop := (Q = 3 ∧ 2 ≤ j ∧ j ≤ 5) ∨ (Q = 2 ∧ 2 ≤ j ∧ j ≤ 7) ∨ (12 ≤ Q ∧ Q ≤ 15) ∨ (q ≤ Q ∧ Q ≤ q + 6)
def sLm (b Q j : Nat) : Prop := sDm b Q j ∨ sBm b Q j ∨ (Q = 468 ∧ j = 33) ∨ (470 ≤ Q ∧ Q ≤ 475 ∧ j = b)
def LNE (nb : Nat) (tx : Nat → Nat) (q b e : Nat) (r : Int32 × zS) (σ τ τ1 : zS) : Prop := (r.1 = 0 ∧ FT r.2 τ1 ∧ rfr (sLc q) σ r.2 ∧ rfr (sLm b) τ τ1) ∨ (r.1 = 1 ∧ rfr (sLc q) σ r.2 ∧ rfr (sLm b) τ τ1 ∧ ∃ s1 e1 kd1 v1 w1, LHD nb tx q b s1 e1 kd1 v1 w1 r.2 τ1 ∧ e ≤ s1)
theorem zc_l {Z : Nat → Prop} (h : rfr (sZ q Z) σ σ1) : rfr (sLc q) σ σ1 := h.wk (fun Q j y => by
  rcases y with y | y | y
  · exact Or.inl y
  · exact Or.inr (Or.inl ⟨y.1, y.2.1, by have := y.2.2; omega⟩)
  · exact Or.inr (Or.inr (Or.inr ⟨by omega, by omega⟩)))
theorem zm_l {Z : Nat → Prop} (h : rfr (sY b Z) τ τ1) : rfr (sLm b) τ τ1 := h.wk (fun Q j y => by
  rcases y with y | y
  · rcases y.2 with z | z
    · exact Or.inr (Or.inl (Or.inl ⟨y.1, z.1, z.2⟩))
    · exact Or.inr (Or.inr (Or.inl ⟨y.1, z⟩))
  · exact Or.inr (Or.inr (Or.inr ⟨y.1, y.2.1, y.2.2.1⟩)))
/-- a line that tells numbers -/
theorem LIN.hd {m e nf L u n : Nat} {fa fl tf : Nat → Nat} {gv : Nat → Nat → Int32} {Z : Nat → Prop} {r : Int32 × zS} {V : zS → zS → Prop} (q3 : q = 16 ∨ q = 23) (h : LIN nb tx q b m e Z r σ τ τ1 V) (hF : LFn nb q b nf fa fl K H L u σ τ) (h26 : σ.1 2 6 = -1) (hK : LK q b nf n tf gv σ τ) (hP : rfr (sZ q Z) σ r.2 → rfr (sY b Z) τ τ1 → V r.2 τ1 → LPv q b r.2 τ1) (h72 : rfr (sY b Z) τ τ1 → V r.2 τ1 → ∀ m1, MO m m1 → r.2.1 2 4 = nI m1 → nI m1 &&& nI (2 ^ 1) = 0 → τ1.1 472 b = 0) : LNE nb tx q b e r σ τ τ1 := by
  rcases h with ⟨a1, a2, a3, a4⟩ | ⟨a1, a2, a3, a4, m1, s1, e1, kd1, v1, w1, a5, a6, a7⟩
  · exact Or.inl ⟨a1, a2, zc_l a3, zm_l a4⟩
  · have c : ∀ Q j, ¬ (Q = 3 ∨ (Q = 2 ∧ j ≤ 5) ∨ (Q = q ∧ j ≤ 5)) → r.2.1 Q j = σ.1 Q j := fun Q j y => a2.2 _ _ (fun z => by
      rcases z with z | z | z
      · exact y (Or.inl z.1)
      · exact y (Or.inr (Or.inl ⟨z.1, z.2.2⟩))
      · exact y (Or.inr (Or.inr ⟨z.1, z.2.1⟩)))
    have t : ∀ Q j, ¬ (Q = 468 ∨ (470 ≤ Q ∧ Q ≤ 475)) → τ1.1 Q j = τ.1 Q j := fun Q j y => a3.2 _ _ (fun z => by
      rcases z with z | z
      · exact y (Or.inl z.1)
      · exact y (Or.inr ⟨z.1, z.2.1⟩))
    exact Or.inr ⟨a1, zc_l a2, zm_l a3, s1, e1, kd1, v1, w1, ⟨m1, nf, fa, fl, K, H, L, u, n, tf, gv, a5, hF.eq (fun Q j y => c _ _ (by omega)) (fun Q j y => t _ _ (by omega)), (c _ _ (by omega)).trans h26, hP a2 a3 a4, h72 a3 a4 m1 a7 a5.2.2.2.2.2.1.1, hK.eq (Nat.le_refl _) (fun Q j y => c _ _ (by omega)) (fun Q j y => t _ _ (by omega))⟩, a6⟩
end IS
