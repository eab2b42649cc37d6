/-! what reading a unit, a term, a sum, a formula comes to on both sides -/
section IS
variable {N : Nat} {E : EV} {σ σ1 σ2 τ τ1 τ2 : zS} {K K1 : aK}
/-- a formula too many, on both sides -/
def SP (b s : Nat) (σ τ : zS) : Prop := (f_X9_isTooMany (nI b) τ = 0 ∧ σ.1 2 6 = -1) ∨ (¬ f_X9_isTooMany (nI b) τ = 0 ∧ σ.1 2 6 = nI s)
/-- both found the same fault; the reference's code has room -/
def FTL (E : EV) (σ τ : zS) : Prop := FT σ τ ∧ ∃ LR, τ.1 479 E.b = nI LR ∧ LR ≤ 399
/-- both stop with the same fault -/
def BAD (E : EV) (N s : Nat) (g : Int32 × zS) (σ τ : zS) : Prop := g.1 = 0 ∧ ∃ jj τ1, jj + 2 * s ≤ 2100 ∧ Rn N E.b jj τ τ1 ∧ FTL E g.2 τ1 ∧ rfr (sRD E.q) σ g.2 ∧ rfr (sRN E.b) τ τ1
/-- both have read it: the reference's code is behind (LR = Lc - pending) or ahead (minuses) -/
def GD (E : EV) (N : Nat) (K : aK) (H : Nat → Nat) (Lc h u s wt : Nat) (σ τ : zS) (Q : Nat → Nat → aK → zS → Prop) (s1 e1 kd1 v1 w1 u1 : Nat) (K1 : aK) (H1 : Nat → Nat) (Lc1 jj : Nat) (σ1 τ1 : zS) : Prop := TKs E.tx E.nb s1 e1 kd1 v1 w1 σ1 τ1 ∧ EN E σ1 τ1 ∧ (σ1.1 E.q 8 = nI u1 ∧ τ1.1 478 E.b = nI u1 ∧ u1 ≤ 80) ∧ CKc σ1 E.q K1 Lc1 ∧ τ1.1 468 39 = 2 ∧ τ1.1 468 25 = 0 ∧ σ1.1 2 6 = -1 ∧ TS K H Lc K1 H1 Lc1 E.nf ∧ (H1 Lc1 = h + 1 ∧ h ≤ 27) ∧ (u < u1 ∧ Lc1 + 2 ≤ Lc + 4 * (u1 - u)) ∧ (s < s1 ∧ jj ≤ 2 * (s1 - s)) ∧ Rn N E.b jj τ τ1 ∧ rfr (sRC E.q) σ σ1 ∧ rfr (sRM E.b) τ τ1 ∧ (∀ i, i < wt → τ1.1 490 i = τ.1 490 i ∧ τ1.1 491 i = τ.1 491 i) ∧ Q kd1 Lc1 K1 τ1
def GOOD (E : EV) (N : Nat) (K : aK) (H : Nat → Nat) (Lc h u s wt : Nat) (g : Int32 × zS) (σ τ : zS) (Q : Nat → Nat → aK → zS → Prop) : Prop := g.1 = 1 ∧ ∃ s1 e1 kd1 v1 w1 u1 K1 H1 Lc1 jj τ1, GD E N K H Lc h u s wt σ τ Q s1 e1 kd1 v1 w1 u1 K1 H1 Lc1 jj g.2 τ1
def RES (E : EV) (N : Nat) (K : aK) (H : Nat → Nat) (Lc h u s wt : Nat) (g : Int32 × zS) (σ τ : zS) (Q : Nat → Nat → aK → zS → Prop) : Prop := BAD E N s g σ τ ∨ (f_X9_isTooMany (nI E.b) τ = 0 ∧ GOOD E N K H Lc h u s wt g σ τ Q)
/-- behind a unit: minuses that waited are laid already -/
def QU (E : EV) (wt j d : Nat) (W : Nat → Nat) (_kd Lc : Nat) (K : aK) (τ : zS) : Prop := MKc τ E.b K (Lc + j) ∧ SKs τ wt W ∧ τ.1 468 38 = nI d ∧ ∀ i, Lc ≤ i → i < Lc + j → K.1 i = 7 ∧ K.2.1 i = 0
/-- behind a term, a sum, a formula: operators wait, m of them, from the place wt on, each binding by lo at least; the token binds by less than lx -/
def QT (E : EV) (wt d lo lx : Nat) (W : Nat → Nat) (kd Lc : Nat) (K : aK) (τ : zS) : Prop := ∃ m W1, m + lo ≤ 3 ∧ m ≤ Lc ∧ MKc τ E.b K (Lc - m) ∧ SKs τ (wt + m) W1 ∧ (∀ i, i < wt → W1 i = W i) ∧ (∀ i, wt ≤ i → i < wt + m → lo ≤ bnd (W1 i)) ∧ τ.1 468 38 = nI d ∧ (∀ i, i < m → K.1 (Lc - m + i) = W1 (wt + m - 1 - i) ∧ K.2.1 (Lc - m + i) = 0) ∧ bnd (opK kd) < lx
/-- what a unit must do at depth n of the recursion -/
def GU (E : EV) (N n : Nat) : Prop := ∀ (s e kd v w u : Nat) (K : aK) (H : Nat → Nat) (Lc wt j d sg h : Nat) (W : Nat → Nat) (σ τ : zS), PS E s e kd v w u K Lc Lc (wt + j) W (d + j) sg σ τ → (∀ i, wt ≤ i → i < wt + j → W i = 7) → (wt = 0 ∨ ¬ W (wt - 1) = 7) → sg ≤ 1 → SP E.b s σ τ → p_X9_isTooMany (nI E.b) τ → (sg = 0 → ¬ kd = 320 ∧ (tpW (wt + j) W = 105 → ¬ kd = 41)) → H Lc = h → h ≤ 5 * (d + j) + 2 → d + j ≤ 6 → wt + j ≤ 8 * (d + j) + 6 → Lc ≤ 4 * u → (∀ f, f < E.nf → K.2.2.2 f = E.ar f) → 7 * (6 - (d + j)) + 2 < n → h_rd N n 3 (nI (d + j)) 0 σ ∧ RES E N K H Lc h u s wt (g_rd N n 3 (nI (d + j)) 0 σ) σ τ (QU E wt j d W)
/-- what a term, a sum, a formula must do -/
def GL (E : EV) (N n c lo hb kk : Nat) : Prop := ∀ (s e kd v w u : Nat) (K : aK) (H : Nat → Nat) (Lc wt d sg h : Nat) (W : Nat → Nat) (σ τ : zS), PS E s e kd v w u K Lc Lc wt W d sg σ τ → (wt = 0 ∨ ¬ W (wt - 1) = 7) → bndT wt W < lo → sg ≤ 1 → (c = 0 → sg = 0) → SP E.b s σ τ → p_X9_isTooMany (nI E.b) τ → (sg = 0 → (c = 0 ∨ ¬ kd = 320) ∧ (tpW wt W = 105 → ¬ kd = 41)) → H Lc = h → h ≤ 5 * d + hb → d ≤ 6 → wt ≤ 8 * d + 2 * hb + 2 → Lc ≤ 4 * u → (∀ f, f < E.nf → K.2.2.2 f = E.ar f) → 7 * (6 - d) + kk < n → h_rd N n c (nI d) 0 σ ∧ RES E N K H Lc h u s wt (g_rd N n c (nI d) 0 σ) σ τ (QT E wt d lo lo W)
/-- a unit among the others -/
theorem GU.gl {n : Nat} (h : GU E N n) : GL E N n 3 3 2 2 := by
  intro s e kd v w u K H Lc wt d sg h1 W σ τ p1 p2 p3 p4 p5 p6 p7 p8 p9 p10 p11 p12 p13 p14 p15
  obtain ⟨a1, a2⟩ := h s e kd v w u K H Lc wt 0 d sg h1 W σ τ p1 (fun i i1 i2 => by omega) p2 p4 p6 p7 (fun y => ⟨((p8 y).1).resolve_left (by decide), (p8 y).2⟩) p9 p10 p11 p12 p13 p14 p15
  refine ⟨a1, a2.elim Or.inl (fun y => Or.inr ⟨y.1, ?_⟩)⟩
  obtain ⟨-, b0, s1, e1, kd1, v1, w1, u1, K1, H1, Lc1, jj, τ1, c1, c2, c3, c4, c5, c6, c7, c8, c9, c10, c11, c12, c13, c14, c15, c16⟩ := y
  refine ⟨b0, s1, e1, kd1, v1, w1, u1, K1, H1, Lc1, jj, τ1, c1, c2, c3, c4, c5, c6, c7, c8, c9, c10, c11, c12, c13, c14, c15, 0, W, by omega, by omega, c16.1, c16.2.1, fun _ _ => rfl, fun i i1 i2 => by omega, c16.2.2.1, fun i hi => by omega, ?_⟩
  unfold bnd
  split <;> (try split) <;> omega
end IS
