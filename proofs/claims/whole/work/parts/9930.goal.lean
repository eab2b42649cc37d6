/-! what reading a unit, a term, a sum, a formula comes to on both sides -/
section IS
variable {N : Nat} {E : EV} {σ σ1 σ2 τ τ1 τ2 : zS} {K K1 : aK}
/-- both stop with the same fault -/
def BAD (E : EV) (N : Nat) (g : Int32 × zS) (σ τ : zS) : Prop := g.1 = 0 ∧ ∃ jj τ1, jj ≤ 4000 ∧ Rn N E.b jj τ τ1 ∧ FT g.2 τ1 ∧ rfr (sRC E.q) σ g.2 ∧ rfr (sRM E.b) τ τ1
/-- both have read it: the reference's code is M behind (LR = Lc - pending) or ahead (minuses) -/
def GOOD (E : EV) (N : Nat) (K : aK) (H : Nat → Nat) (Lc h u s wt : Nat) (g : Int32 × zS) (σ τ : zS) (Q : Nat → Nat → aK → Nat → zS → zS → Prop) : Prop := g.1 = 1 ∧ ∃ s1 e1 kd1 v1 w1 u1 K1 H1 Lc1 jj τ1, TKs E.tx E.nb s1 e1 kd1 v1 w1 g.2 τ1 ∧ EN E g.2 τ1 ∧ (g.2.1 E.q 8 = nI u1 ∧ τ1.1 478 E.b = nI u1 ∧ u1 ≤ 80) ∧ CKc g.2 E.q K1 Lc1 ∧ τ1.1 468 39 = 2 ∧ τ1.1 468 25 = 0 ∧ g.2.1 2 6 = -1 ∧ TS K H Lc K1 H1 Lc1 E.nf ∧ H1 Lc1 = h + 1 ∧ (u < u1 ∧ Lc1 + 2 ≤ Lc + 4 * (u1 - u)) ∧ (s < s1 ∧ jj ≤ 2 * (s1 - s)) ∧ Rn N E.b jj τ τ1 ∧ rfr (sRC E.q) σ g.2 ∧ rfr (sRM E.b) τ τ1 ∧ (∀ i, i < wt → τ1.1 490 i = τ.1 490 i ∧ τ1.1 491 i = τ.1 491 i) ∧ Q kd1 Lc1 K1 u1 g.2 τ1
/-- behind a unit: minuses that waited are laid already -/
def QU (E : EV) (wt j d : Nat) (W : Nat → Nat) (_kd Lc : Nat) (K : aK) (_u : Nat) (_σ τ : zS) : Prop := MKc τ E.b K (Lc + j) ∧ SKs τ wt W ∧ τ.1 468 38 = nI d ∧ ∀ i, Lc ≤ i → i < Lc + j → K.1 i = 7 ∧ K.2.1 i = 0
/-- behind a term, a sum, a formula: operators wait, at most m of them, from the place wt on; no operator that binds as tightly stands there -/
def QT (E : EV) (wt d lo : Nat) (W : Nat → Nat) (kd Lc : Nat) (K : aK) (_u : Nat) (_σ τ : zS) : Prop := ∃ m W1, m ≤ 2 ∧ m ≤ Lc ∧ MKc τ E.b K (Lc - m) ∧ SKs τ (wt + m) W1 ∧ (∀ i, i < wt → W1 i = W i) ∧ (∀ i, wt ≤ i → i < wt + m → lo ≤ bnd (W1 i)) ∧ τ.1 468 38 = nI d ∧ (∀ i, i < m → K.1 (Lc - m + i) = W1 (wt + m - 1 - i) ∧ K.2.1 (Lc - m + i) = 0) ∧ bnd (opK kd) < lo
/-- what a unit must do at depth n of the recursion -/
def GU (E : EV) (N n : Nat) : Prop := ∀ (s e kd v w u : Nat) (K : aK) (H : Nat → Nat) (Lc wt j d sg h : Nat) (W : Nat → Nat) (σ τ : zS), PS E s e kd v w u K Lc Lc (wt + j) W (d + j) sg σ τ → (∀ i, wt ≤ i → i < wt + j → W i = 7) → (wt = 0 ∨ ¬ W (wt - 1) = 7) → sg ≤ 1 → (1 ≤ j → sg = 1) → f_X9_isTooMany (nI E.b) τ = 0 → p_X9_isTooMany (nI E.b) τ → (sg = 0 → ¬ kd = 320 ∧ (tpW (wt + j) W = 105 → ¬ kd = 41)) → H Lc = h → h ≤ 5 * (d + j) + 2 → d + j ≤ 6 → wt + j ≤ 8 * (d + j) + 8 → Lc ≤ 4 * u → (∀ f, f < E.nf → K.2.2.2 f = E.ar f) → 7 * (6 - (d + j)) + 2 ≤ n → h_rd N n 3 (nI (d + j)) 0 σ ∧ (BAD E N (g_rd N n 3 (nI (d + j)) 0 σ) σ τ ∨ GOOD E N K H Lc h u s wt (g_rd N n 3 (nI (d + j)) 0 σ) σ τ (QU E wt j d W))
end IS
