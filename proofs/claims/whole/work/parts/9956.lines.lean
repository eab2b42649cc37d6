/-! lines that tell windows, slice, prices -/
section IS
variable {N nb q b : Nat} {tx : Nat → Nat} {σ σ1 σ2 τ τ1 τ2 : zS} {Z : Nat → Prop}
/-- at a token of a line, no fault yet -/
def LNb (nb : Nat) (tx : Nat → Nat) (q b m s e kd v w : Nat) (σ τ : zS) : Prop := TC nb tx σ ∧ TM nb tx τ ∧ (σ.2 2 1 = q + 1 ∧ (q = 16 ∨ q = 23) ∧ b < 2) ∧ TKs tx nb s e kd v w σ τ ∧ τ.1 468 25 = 0 ∧ (σ.1 2 4 = nI m ∧ τ.1 468 33 = nI m ∧ m < 16) ∧ (σ.1 2 2 = 0 ∧ σ.1 2 3 = -1 ∧ τ.1 468 26 = -1)
/-- what a line may change; Z: which of the six numbers told -/
def sZ (q : Nat) (Z : Nat → Prop) (Q j : Nat) : Prop := (Q = 3 ∧ 2 ≤ j ∧ j ≤ 5) ∨ (Q = 2 ∧ 2 ≤ j ∧ j ≤ 5) ∨ (Q = q ∧ j ≤ 5 ∧ Z j)
def sY (b : Nat) (Z : Nat → Prop) (Q j : Nat) : Prop := (Q = 468 ∧ ((20 ≤ j ∧ j ≤ 26) ∨ j = 33)) ∨ (470 ≤ Q ∧ Q ≤ 475 ∧ j = b ∧ Z (Q - 470))
theorem rfr.zc (h : rfr sTC σ σ1) : rfr (sZ q Z) σ σ1 := h.wk (fun Q j y => Or.inl y)
theorem rfr.zm (h : rfr sTM τ τ1) : rfr (sY b Z) τ τ1 := h.wk (fun Q j y => by
  have y : Q = 468 ∧ 20 ≤ j ∧ j ≤ 24 := y
  exact Or.inl ⟨y.1, Or.inl ⟨by omega, by omega⟩⟩)
/-- the same fault on both sides -/
theorem ft2 {c s : Nat} (h1 : 1 ≤ c) (h2 : c ≤ 5) (hs : s ≤ 1000) (hy : σ.1 3 3 = nI s) (hf : FLm c τ τ1) (h21 : τ.1 468 21 = nI s) : FT (zuI (zuI σ 2 2 (nI c)) 2 3 (σ.1 3 3)) τ1 ∧ rfr (sZ q Z) σ (zuI (zuI σ 2 2 (nI c)) 2 3 (σ.1 3 3)) ∧ rfr (sY b Z) τ τ1 := by
  unfold FLm at hf
  subst hf
  refine ⟨⟨c, s, h1, h2, hs, ?_, ?_, ?_, ?_⟩, (rfr.rf.uI (Or.inr (Or.inl ⟨rfl, by omega, by omega⟩))).uI (Or.inr (Or.inl ⟨rfl, by omega, by omega⟩)), (rfr.rf.uI (Or.inl ⟨rfl, Or.inl ⟨by omega, by omega⟩⟩)).uI (Or.inl ⟨rfl, Or.inl ⟨by omega, by omega⟩⟩)⟩
  · rw [gI_n (by omega), gI_h rfl rfl]
  · rw [gI_h rfl rfl, hy]
  · rw [gI_n (by omega), gI_h rfl rfl]
  · rw [gI_h rfl rfl, h21]
theorem FT.set {Q j : Nat} {x : Int32} (h : FT σ τ) (hq : ¬ Q = 468) : FT σ (zuI τ Q j x) := by
  obtain ⟨c, p, a1, a2, a3, a4, a5, a6, a7⟩ := h
  exact ⟨c, p, a1, a2, a3, a4, a5, (gI_n (by omega)).trans a6, (gI_n (by omega)).trans a7⟩
theorem LNb.s1 {m s e kd v w : Nat} (h : LNb nb tx q b m s e kd v w σ τ) : s ≤ 1000 ∧ σ.1 3 3 = nI s ∧ τ.1 468 21 = nI s := by
  have hT := h.2.2.2.1
  have := hT.1
  have := hT.2.1
  have := h.2.1.2.1
  exact ⟨by omega, hT.2.2.2.2.2.2.1, hT.2.2.2.2.2.2.2.2.2.1⟩
/-- told once -/
theorem st_once {m s e kd v w k : Nat} (h : LNb nb tx q b m s e kd v w σ τ) (k4 : k < 4) (hN : 200000 < N) : p_X3_readFirstTold (nI (2 ^ k)) N σ ∧ p_X9_isOnce (nI k) N τ ∧ (((r_X3_readFirstTold (nI (2 ^ k)) N σ).1 = 0 ∧ (r_X9_isOnce (nI k) N τ).1 = 0 ∧ FT (r_X3_readFirstTold (nI (2 ^ k)) N σ).2 (r_X9_isOnce (nI k) N τ).2 ∧ rfr (sZ q Z) σ (r_X3_readFirstTold (nI (2 ^ k)) N σ).2 ∧ rfr (sY b Z) τ (r_X9_isOnce (nI k) N τ).2) ∨ ((r_X3_readFirstTold (nI (2 ^ k)) N σ).1 = 1 ∧ (r_X9_isOnce (nI k) N τ).1 = 1 ∧ rfr (sZ q Z) σ (r_X3_readFirstTold (nI (2 ^ k)) N σ).2 ∧ rfr (sY b Z) τ (r_X9_isOnce (nI k) N τ).2 ∧ ∃ m1 s1 e1 kd1 v1 w1, LNb nb tx q b m1 s1 e1 kd1 v1 w1 (r_X3_readFirstTold (nI (2 ^ k)) N σ).2 (r_X9_isOnce (nI k) N τ).2 ∧ e ≤ s1 ∧ nI m &&& nI (2 ^ k) = 0 ∧ MO m m1 ∧ ¬ (nI m1 &&& nI (2 ^ k) = 0))) := by
  obtain ⟨sl, h33, h21⟩ := h.s1
  obtain ⟨a1, a2, ⟨a3, a4, a5⟩, a6, a7, ⟨a8, a9, a10⟩, a11, a12, a13⟩ := h
  obtain ⟨x1, x2, x3⟩ := ln_once a1 a2 a6 a7 a8 a9 a10 k4 hN
  refine ⟨x1, x2, ?_⟩
  rcases x3 with ⟨y1, y2, yy, y3⟩ | ⟨m1, m16, mo, y1, y2, s1, e1, kd1, v1, w1, t1, t2, t3, t4⟩
  · left
    rw [y1, y3]
    obtain ⟨f1, f2, f3⟩ := ft2 (q := q) (b := b) (Z := Z) (c := 3) (τ := τ) (by decide) (by decide) sl h33 rfl h21
    refine ⟨rfl, y2, ?_, f2, f3.uI (Or.inl ⟨rfl, Or.inr rfl⟩)⟩
    obtain ⟨c, p, g1, g2, g3, g4, g5, g6, g7⟩ := f1
    exact ⟨c, p, g1, g2, g3, g4, g5, (gI_n (by omega)).trans g6, (gI_n (by omega)).trans g7⟩
  · right
    rw [y1, y2]
    have cN : ∀ Q j, ¬ Q = 3 → (s_X6_next N (zuI σ 2 4 (nI m1))).1 Q j = (zuI σ 2 4 (nI m1)).1 Q j := fun Q j y => t2.2 _ _ (fun z => y z.1)
    have mN : ∀ Q j, ¬ (Q = 468 ∧ 20 ≤ j ∧ j ≤ 24) → (s_X9_scan N (zuI τ 468 33 (nI m1))).1 Q j = (zuI τ 468 33 (nI m1)).1 Q j := t3.2
    have fC : rfr (sZ q Z) σ (s_X6_next N (zuI σ 2 4 (nI m1))) := (rfr.rf.uI (Or.inr (Or.inl ⟨rfl, by omega, by omega⟩))).tr t2.zc
    have fM : rfr (sY b Z) τ (s_X9_scan N (zuI τ 468 33 (nI m1))) := (rfr.rf.uI (Or.inl ⟨rfl, Or.inr rfl⟩)).tr t3.zm
    refine ⟨rfl, rfl, fC, fM, m1, s1, e1, kd1, v1, w1, ⟨a1.eq (fun Q j y => ?_) ?_, a2.eq (fun Q j y => ?_), ⟨?_, a4, a5⟩, t1, ?_, ⟨?_, ?_, m16⟩, ?_, ?_, ?_⟩, t4, mo⟩
    · rw [t2.2 _ _ (fun z => by unfold sTC at z; omega), gI_n (by omega)]
    · rw [fC.1]
    · rw [mN _ _ (by omega), gI_n (by omega)]
    · rw [fC.1]; exact a3
    · rw [mN _ _ (by omega), gI_n (by omega)]; exact a7
    · rw [cN _ _ (by omega)]; exact gI_h rfl rfl
    · rw [mN _ _ (by omega)]; exact gI_h rfl rfl
    · rw [cN _ _ (by omega), gI_n (by omega)]; exact a11
    · rw [cN _ _ (by omega), gI_n (by omega)]; exact a12
    · rw [mN _ _ (by omega), gI_n (by omega)]; exact a13
/-- a number -/
theorem st_num {m s e kd v w lo hi : Nat} (h : LNb nb tx q b m s e kd v w σ τ) (hi4 : hi ≤ 9999) (hlo : lo ≤ hi) (hN : 200000 < N) : p_X3_readNumber (nI lo) (nI hi) N σ ∧ p_X9_numeral (nI lo) (nI hi) N τ ∧ (((r_X3_readNumber (nI lo) (nI hi) N σ).1 = 0 ∧ FT (r_X3_readNumber (nI lo) (nI hi) N σ).2 (r_X9_numeral (nI lo) (nI hi) N τ).2 ∧ rfr (sZ q Z) σ (r_X3_readNumber (nI lo) (nI hi) N σ).2 ∧ rfr (sY b Z) τ (r_X9_numeral (nI lo) (nI hi) N τ).2) ∨ ((r_X3_readNumber (nI lo) (nI hi) N σ).1 = 1 ∧ rfr (sZ q Z) σ (r_X3_readNumber (nI lo) (nI hi) N σ).2 ∧ rfr (sY b Z) τ (r_X9_numeral (nI lo) (nI hi) N τ).2 ∧ ∃ x, lo ≤ x ∧ x ≤ hi ∧ (r_X3_readNumber (nI lo) (nI hi) N σ).2.1 2 5 = nI x ∧ (r_X9_numeral (nI lo) (nI hi) N τ).1 = nI x ∧ ∃ s1 e1 kd1 v1 w1, LNb nb tx q b m s1 e1 kd1 v1 w1 (r_X3_readNumber (nI lo) (nI hi) N σ).2 (r_X9_numeral (nI lo) (nI hi) N τ).2 ∧ e ≤ s1 ∧ kd = 302)) := by
  obtain ⟨sl, h33, h21⟩ := h.s1
  obtain ⟨a1, a2, ⟨a3, a4, a5⟩, a6, a7, ⟨a8, a9, a10⟩, a11, a12, a13⟩ := h
  obtain ⟨x1, x2, x3⟩ := ln_num a1 a2 a6 a7 hi4 hlo hN
  refine ⟨x1, x2, ?_⟩
  rcases x3 with ⟨c, c1, c2, y1, y2⟩ | ⟨kk, l1, l2, y1, y2, s1, e1, kd1, v1, w1, t1, t2, t3, t4⟩
  · left
    rw [y1]
    obtain ⟨f1, f2, f3⟩ := ft2 (q := q) (b := b) (Z := Z) (c := c) c1 (by omega) sl h33 y2 h21
    exact ⟨rfl, f1, f2, f3⟩
  · right
    rw [y1, y2]
    have cN : ∀ Q j, ¬ Q = 3 → (s_X6_next N (zuI σ 2 5 (nI v))).1 Q j = (zuI σ 2 5 (nI v)).1 Q j := fun Q j y => t2.2 _ _ (fun z => y z.1)
    have mN : ∀ Q j, ¬ (Q = 468 ∧ 20 ≤ j ∧ j ≤ 24) → (s_X9_scan N τ).1 Q j = τ.1 Q j := t3.2
    have fC : rfr (sZ q Z) σ (s_X6_next N (zuI σ 2 5 (nI v))) := (rfr.rf.uI (Or.inr (Or.inl ⟨rfl, by omega, by omega⟩))).tr t2.zc
    refine ⟨rfl, fC, t3.zm, v, l1, l2, ?_, rfl, s1, e1, kd1, v1, w1, ⟨a1.eq (fun Q j y => ?_) ?_, a2.eq (fun Q j y => ?_), ⟨?_, a4, a5⟩, t1, ?_, ⟨?_, ?_, a10⟩, ?_, ?_, ?_⟩, t4, kk⟩
    · rw [cN _ _ (by omega)]; exact gI_h rfl rfl
    · rw [t2.2 _ _ (fun z => by unfold sTC at z; omega), gI_n (by omega)]
    · rw [fC.1]
    · rw [mN _ _ (by omega)]
    · rw [fC.1]; exact a3
    · rw [mN _ _ (by omega)]; exact a7
    · rw [cN _ _ (by omega), gI_n (by omega)]; exact a8
    · rw [mN _ _ (by omega)]; exact a9
    · rw [cN _ _ (by omega), gI_n (by omega)]; exact a11
    · rw [cN _ _ (by omega), gI_n (by omega)]; exact a12
    · rw [mN _ _ (by omega)]; exact a13
/-- a sign -/
theorem st_sign {m s e kd v w c : Nat} (h : LNb nb tx q b m s e kd v w σ τ) (hc : c < 128) (hN : 200000 < N) : p_X3_readSign (nI c) N σ ∧ p_X9_need (nI c) N τ ∧ (((r_X3_readSign (nI c) N σ).1 = 0 ∧ FT (r_X3_readSign (nI c) N σ).2 (s_X9_need (nI c) N τ) ∧ rfr (sZ q Z) σ (r_X3_readSign (nI c) N σ).2 ∧ rfr (sY b Z) τ (s_X9_need (nI c) N τ)) ∨ ((r_X3_readSign (nI c) N σ).1 = 1 ∧ rfr sTC σ (r_X3_readSign (nI c) N σ).2 ∧ rfr sTM τ (s_X9_need (nI c) N τ) ∧ ∃ s1 e1 kd1 v1 w1, LNb nb tx q b m s1 e1 kd1 v1 w1 (r_X3_readSign (nI c) N σ).2 (s_X9_need (nI c) N τ) ∧ e ≤ s1)) := by
  obtain ⟨sl, h33, h21⟩ := h.s1
  obtain ⟨a1, a2, ⟨a3, a4, a5⟩, a6, a7, ⟨a8, a9, a10⟩, a11, a12, a13⟩ := h
  obtain ⟨x1, x2, x3⟩ := ln_sign a1 a2 a6 a7 hc hN
  refine ⟨x1, x2, ?_⟩
  rcases x3 with ⟨kk, y1, y2⟩ | ⟨kk, y1, y2, s1, e1, kd1, v1, w1, t1, t2, t3, t4⟩
  · left
    rw [y1]
    obtain ⟨f1, f2, f3⟩ := ft2 (q := q) (b := b) (Z := Z) (c := 1) (by decide) (by decide) sl h33 y2 h21
    exact ⟨rfl, f1, f2, f3⟩
  · right
    rw [y1, y2]
    have cN : ∀ Q j, ¬ Q = 3 → (s_X6_next N σ).1 Q j = σ.1 Q j := fun Q j y => t2.2 _ _ (fun z => y z.1)
    have mN : ∀ Q j, ¬ (Q = 468 ∧ 20 ≤ j ∧ j ≤ 24) → (s_X9_scan N τ).1 Q j = τ.1 Q j := t3.2
    refine ⟨rfl, t2, t3, s1, e1, kd1, v1, w1, ⟨a1.eq (fun Q j y => ?_) ?_, a2.eq (fun Q j y => ?_), ⟨?_, a4, a5⟩, t1, ?_, ⟨?_, ?_, a10⟩, ?_, ?_, ?_⟩, t4⟩
    · rw [t2.2 _ _ (fun z => by unfold sTC at z; omega)]
    · rw [t2.1]
    · rw [mN _ _ (by omega)]
    · rw [t2.1]; exact a3
    · rw [mN _ _ (by omega)]; exact a7
    · rw [cN _ _ (by omega)]; exact a8
    · rw [mN _ _ (by omega)]; exact a9
    · rw [cN _ _ (by omega)]; exact a11
    · rw [cN _ _ (by omega)]; exact a12
    · rw [mN _ _ (by omega)]; exact a13
/-- a cell that no token lives in is set -/
theorem LNb.set {m s e kd v w Q j Q1 j1 : Nat} {x y : Int32} (h : LNb nb tx q b m s e kd v w σ τ) (hQ : ¬ (Q = 1 ∨ Q = 2 ∨ Q = 3)) (hQ1 : ¬ (Q1 = 468 ∨ Q1 = 485 ∨ Q1 = 486)) : LNb nb tx q b m s e kd v w (zuI σ Q j x) (zuI τ Q1 j1 y) := by
  obtain ⟨a1, a2, ⟨a3, a4, a5⟩, a6, a7, ⟨a8, a9, a10⟩, a11, a12, a13⟩ := h
  exact ⟨a1.eq (fun Q j y => gI_n (by omega)) rfl, a2.eq (fun Q j y => gI_n (by omega)), ⟨a3, a4, a5⟩, a6.eq (fun j _ _ => gI_n (by omega)) (fun j _ _ => gI_n (by omega)), (gI_n (by omega)).trans a7, ⟨(gI_n (by omega)).trans a8, (gI_n (by omega)).trans a9, a10⟩, (gI_n (by omega)).trans a11, (gI_n (by omega)).trans a12, (gI_n (by omega)).trans a13⟩
/-- what a line leaves -/
def LIN (nb : Nat) (tx : Nat → Nat) (q b m e : Nat) (Z : Nat → Prop) (r : Int32 × zS) (σ τ τ1 : zS) (V : zS → zS → Prop) : Prop := (r.1 = 0 ∧ FT r.2 τ1 ∧ rfr (sZ q Z) σ r.2 ∧ rfr (sY b Z) τ τ1) ∨ (r.1 = 1 ∧ rfr (sZ q Z) σ r.2 ∧ rfr (sY b Z) τ τ1 ∧ V r.2 τ1 ∧ ∃ m1 s1 e1 kd1 v1 w1, LNb nb tx q b m1 s1 e1 kd1 v1 w1 r.2 τ1 ∧ e ≤ s1 ∧ MO m m1)
/-- windows and slice: one number -/
theorem ln_one {m s e kd v w k i lo hi : Nat} (h : LNb nb tx q b m s e kd v w σ τ) (k4 : k < 4) (i5 : i ≤ 5) (hi4 : hi ≤ 9999) (hlo : lo ≤ hi) (hN : 200000 < N) : p_X3_readFirstTold (nI (2 ^ k)) N σ ∧ p_X9_isOnce (nI k) N τ ∧ (¬ (r_X9_isOnce (nI k) N τ).1 = 0 → p_X9_numeral (nI lo) (nI hi) N (r_X9_isOnce (nI k) N τ).2) ∧ (¬ (r_X3_readFirstTold (nI (2 ^ k)) N σ).1 = 0 → p_X3_readNumber (nI lo) (nI hi) N (r_X3_readFirstTold (nI (2 ^ k)) N σ).2 ∧ (¬ (r_X3_readNumber (nI lo) (nI hi) N (r_X3_readFirstTold (nI (2 ^ k)) N σ).2).1 = 0 → (r_X3_readNumber (nI lo) (nI hi) N (r_X3_readFirstTold (nI (2 ^ k)) N σ).2).2.2 2 1 = q + 1 ∧ p_X3_readSign 59 N (zuI (r_X3_readNumber (nI lo) (nI hi) N (r_X3_readFirstTold (nI (2 ^ k)) N σ).2).2 q i ((r_X3_readNumber (nI lo) (nI hi) N (r_X3_readFirstTold (nI (2 ^ k)) N σ).2).2.1 2 5)))) ∧ p_X9_need 59 N (if (r_X9_isOnce (nI k) N τ).1 = 0 then (r_X9_isOnce (nI k) N τ).2 else zuI (r_X9_numeral (nI lo) (nI hi) N (r_X9_isOnce (nI k) N τ).2).2 (470 + i) b (r_X9_numeral (nI lo) (nI hi) N (r_X9_isOnce (nI k) N τ).2).1) ∧ LIN nb tx q b m e (fun j => j = i) (if (r_X3_readFirstTold (nI (2 ^ k)) N σ).1 = 0 then (0, (r_X3_readFirstTold (nI (2 ^ k)) N σ).2) else (if (r_X3_readNumber (nI lo) (nI hi) N (r_X3_readFirstTold (nI (2 ^ k)) N σ).2).1 = 0 then (0, (r_X3_readNumber (nI lo) (nI hi) N (r_X3_readFirstTold (nI (2 ^ k)) N σ).2).2) else r_X3_readSign 59 N (zuI (r_X3_readNumber (nI lo) (nI hi) N (r_X3_readFirstTold (nI (2 ^ k)) N σ).2).2 q i ((r_X3_readNumber (nI lo) (nI hi) N (r_X3_readFirstTold (nI (2 ^ k)) N σ).2).2.1 2 5)))) σ τ (s_X9_need 59 N (if (r_X9_isOnce (nI k) N τ).1 = 0 then (r_X9_isOnce (nI k) N τ).2 else zuI (r_X9_numeral (nI lo) (nI hi) N (r_X9_isOnce (nI k) N τ).2).2 (470 + i) b (r_X9_numeral (nI lo) (nI hi) N (r_X9_isOnce (nI k) N τ).2).1)) (fun σ1 τ1 => ∃ x, lo ≤ x ∧ x ≤ hi ∧ σ1.1 q i = nI x ∧ τ1.1 (470 + i) b = nI x) := by
  have n10 : ¬ (1 : Int32) = 0 := by decide
  have q3 := h.2.2.1.2.1
  obtain ⟨x1, x2, x3⟩ := st_once (Z := fun j => j = i) h k4 hN
  generalize hA : r_X3_readFirstTold (nI (2 ^ k)) N σ = A at *
  generalize hB : r_X9_isOnce (nI k) N τ = B at *
  rcases x3 with ⟨y1, y2, y3, y4, y5⟩ | ⟨y1, y2, y4, y5, m1, s1, e1, kd1, v1, w1, g1, g2, -, mo, -⟩
  · obtain ⟨c, p, c1, c2, c3, c4, c5, c6, c7⟩ := y3
    obtain ⟨d1, d2⟩ := rf_need_bad (N := N) (x := 59) c1 c2 c6
    rw [if_pos y1, if_pos y2, d2]
    exact ⟨x1, x2, fun z => absurd y2 z, fun z => absurd y1 z, d1, Or.inl ⟨rfl, ⟨c, p, c1, c2, c3, c4, c5, c6, c7⟩, y4, y5⟩⟩
  · have y1n : ¬ A.1 = 0 := by rw [y1]; exact n10
    have y2n : ¬ B.1 = 0 := by rw [y2]; exact n10
    obtain ⟨z1, z2, z3⟩ := st_num (Z := fun j => j = i) g1 hi4 hlo hN
    rw [if_neg y1n, if_neg y2n]
    generalize hC : r_X3_readNumber (nI lo) (nI hi) N A.2 = C at *
    generalize hD : r_X9_numeral (nI lo) (nI hi) N B.2 = D at *
    have fD : rfr (sY b (fun j => j = i)) D.2 (zuI D.2 (470 + i) b D.1) := rfr.rf.uI (Or.inr ⟨by omega, by omega, rfl, by omega⟩)
    rcases z3 with ⟨u1, u2, u3, u4⟩ | ⟨u1, u3, u4, x, l1, l2, u5, u6, s2, e2, kd2, v2, w2, g3, g4, -⟩
    · have u2' := u2.set (Q := 470 + i) (j := b) (x := D.1) (by omega)
      obtain ⟨c, p, c1, c2, c3, c4, c5, c6, c7⟩ := u2'
      obtain ⟨d1, d2⟩ := rf_need_bad (N := N) (x := 59) c1 c2 c6
      rw [if_pos u1, d2]
      exact ⟨x1, x2, fun _ => z2, fun _ => ⟨z1, fun z => absurd u1 z⟩, d1, Or.inl ⟨rfl, ⟨c, p, c1, c2, c3, c4, c5, c6, c7⟩, y4.tr u3, (y5.tr u4).tr fD⟩⟩
    · have u1n : ¬ C.1 = 0 := by rw [u1]; exact n10
      have g5 := g3.set (Q := q) (j := i) (x := C.2.1 2 5) (Q1 := 470 + i) (j1 := b) (y := D.1) (by omega) (by omega)
      have fCc : rfr (sZ q (fun j => j = i)) C.2 (zuI C.2 q i (C.2.1 2 5)) := rfr.rf.uI (Or.inr (Or.inr ⟨rfl, i5, rfl⟩))
      obtain ⟨w1', w2', w3'⟩ := st_sign (Z := fun j => j = i) (c := 59) g5 (by decide) hN
      have w1' : p_X3_readSign 59 N (zuI C.2 q i (C.2.1 2 5)) := w1'
      have w2' : p_X9_need 59 N (zuI D.2 (470 + i) b D.1) := w2'
      rw [if_neg u1n]
      refine ⟨x1, x2, fun _ => z2, fun _ => ⟨z1, fun _ => ⟨g3.2.2.1.1, w1'⟩⟩, w2', ?_⟩
      rcases w3' with ⟨t1, t2, t3, t4⟩ | ⟨t1, t3, t4, s3, e3, kd3, v3, w3, g6, g7⟩
      · left
        exact ⟨t1, t2, ((y4.tr u3).tr fCc).tr t3, ((y5.tr u4).tr fD).tr t4⟩
      · right
        have h12 := g3.2.2.2.1
        have t3z : rfr sTC (zuI C.2 q i (C.2.1 2 5)) (r_X3_readSign 59 N (zuI C.2 q i (C.2.1 2 5))).2 := t3
        have t4z : rfr sTM (zuI D.2 (470 + i) b D.1) (s_X9_need 59 N (zuI D.2 (470 + i) b D.1)) := t4
        refine ⟨t1, ((y4.tr u3).tr fCc).tr t3z.zc, ((y5.tr u4).tr fD).tr t4z.zm, ⟨x, l1, l2, ?_, ?_⟩, m1, s3, e3, kd3, v3, w3, g6, ?_, mo⟩
        · rw [t3z.2 _ _ (fun z => by unfold sTC at z; omega), gI_h rfl rfl, u5]
        · rw [t4z.2 _ _ (fun z => by unfold sTM at z; omega), gI_h rfl rfl, u6]
        · have := g1.2.2.2.1.1
          have := g3.2.2.2.1.1
          have h4 := g1.2.2.2.1
          have h5 := g3.2.2.2.1
          have kk := g4
          omega
/-- prices: two numbers -/
theorem ln_two {m s e kd v w k lo hi : Nat} (h : LNb nb tx q b m s e kd v w σ τ) (k4 : k < 4) (hi4 : hi ≤ 9999) (hlo : lo ≤ hi) (hN : 200000 < N) (A : Int32 × zS) (hA : r_X3_readFirstTold (nI (2 ^ k)) N σ = A) (B : Int32 × zS) (hB : r_X9_isOnce (nI k) N τ = B) (C : Int32 × zS) (hC : r_X3_readNumber (nI lo) (nI hi) N A.2 = C) (D : Int32 × zS) (hD : r_X9_numeral (nI lo) (nI hi) N B.2 = D) (C1 : Int32 × zS) (hC1 : r_X3_readNumber (nI lo) (nI hi) N (zuI C.2 q 4 (C.2.1 2 5)) = C1) (D1 : Int32 × zS) (hD1 : r_X9_numeral (nI lo) (nI hi) N (zuI D.2 474 b D.1) = D1) : p_X3_readFirstTold (nI (2 ^ k)) N σ ∧ p_X9_isOnce (nI k) N τ ∧ (¬ B.1 = 0 → p_X9_numeral (nI lo) (nI hi) N B.2 ∧ p_X9_numeral (nI lo) (nI hi) N (zuI D.2 474 b D.1)) ∧ (¬ A.1 = 0 → p_X3_readNumber (nI lo) (nI hi) N A.2 ∧ (¬ C.1 = 0 → C.2.2 2 1 = q + 1 ∧ p_X3_readNumber (nI lo) (nI hi) N (zuI C.2 q 4 (C.2.1 2 5)) ∧ (¬ C1.1 = 0 → C1.2.2 2 1 = q + 1 ∧ p_X3_readSign 59 N (zuI C1.2 q 5 (C1.2.1 2 5))))) ∧ p_X9_need 59 N (if B.1 = 0 then B.2 else zuI D1.2 475 b D1.1) ∧ LIN nb tx q b m e (fun j => j = 4 ∨ j = 5) (if A.1 = 0 then (0, A.2) else (if C.1 = 0 then (0, C.2) else (if C1.1 = 0 then (0, C1.2) else r_X3_readSign 59 N (zuI C1.2 q 5 (C1.2.1 2 5))))) σ τ (s_X9_need 59 N (if B.1 = 0 then B.2 else zuI D1.2 475 b D1.1)) (fun σ1 τ1 => ∃ x y, x ≤ hi ∧ y ≤ hi ∧ σ1.1 q 4 = nI x ∧ τ1.1 474 b = nI x ∧ σ1.1 q 5 = nI y ∧ τ1.1 475 b = nI y) := by
  have n10 : ¬ (1 : Int32) = 0 := by decide
  have q3 := h.2.2.1.2.1
  obtain ⟨x1, x2, x3⟩ := st_once (Z := fun j => j = 4 ∨ j = 5) h k4 hN
  rw [hA, hB] at x3
  rcases x3 with ⟨y1, y2, y3, y4, y5⟩ | ⟨y1, y2, y4, y5, m1, s1, e1, kd1, v1, w1, g1, g2, -, mo, -⟩
  · obtain ⟨c, p, c1, c2, c3, c4, c5, c6, c7⟩ := y3
    obtain ⟨d1, d2⟩ := rf_need_bad (N := N) (x := 59) c1 c2 c6
    rw [if_pos y1, if_pos y2, d2]
    exact ⟨x1, x2, fun z => absurd y2 z, fun z => absurd y1 z, d1, Or.inl ⟨rfl, ⟨c, p, c1, c2, c3, c4, c5, c6, c7⟩, y4, y5⟩⟩
  · have y1n : ¬ A.1 = 0 := by rw [y1]; exact n10
    have y2n : ¬ B.1 = 0 := by rw [y2]; exact n10
    obtain ⟨z1, z2, z3⟩ := st_num (Z := fun j => j = 4 ∨ j = 5) g1 hi4 hlo hN
    rw [if_neg y1n, if_neg y2n]
    rw [hC, hD] at z3
    have fD : rfr (sY b (fun j => j = 4 ∨ j = 5)) D.2 (zuI D.2 474 b D.1) := rfr.rf.uI (Or.inr ⟨by omega, by omega, rfl, by omega⟩)
    rcases z3 with ⟨u1, u2, u3, u4⟩ | ⟨u1, u3, u4, x, l1, l2, u5, u6, s2, e2, kd2, v2, w2, g3, g4, -⟩
    · obtain ⟨c, p, c1, c2, c3, c4, c5, c6, c7⟩ := u2.set (Q := 474) (j := b) (x := D.1) (by omega)
      obtain ⟨f1, f2⟩ := rf_num_bad (N := N) (lo := nI lo) (hi := nI hi) c1 c2 c6
      rw [hD1] at f2
      have ft : FT C.2 (zuI D1.2 475 b D1.1) := by
        rw [f2]
        exact FT.set ⟨c, p, c1, c2, c3, c4, c5, c6, c7⟩ (by omega)
      obtain ⟨c', p', c1', c2', c3', c4', c5', c6', c7'⟩ := ft
      obtain ⟨d1, d2⟩ := rf_need_bad (N := N) (x := 59) c1' c2' c6'
      rw [if_pos u1, d2]
      refine ⟨x1, x2, fun _ => ⟨z2, f1⟩, fun _ => ⟨z1, fun z => absurd u1 z⟩, d1, Or.inl ⟨rfl, ⟨c', p', c1', c2', c3', c4', c5', c6', c7'⟩, y4.tr u3, ?_⟩⟩
      rw [f2]
      exact ((y5.tr u4).tr fD).uI (Or.inr ⟨by omega, by omega, rfl, by omega⟩)
    · have u1n : ¬ C.1 = 0 := by rw [u1]; exact n10
      have g5 := g3.set (Q := q) (j := 4) (x := C.2.1 2 5) (Q1 := 474) (j1 := b) (y := D.1) (by omega) (by omega)
      have fCc : rfr (sZ q (fun j => j = 4 ∨ j = 5)) C.2 (zuI C.2 q 4 (C.2.1 2 5)) := rfr.rf.uI (Or.inr (Or.inr ⟨rfl, by omega, Or.inl rfl⟩))
      obtain ⟨a1, a2, a3⟩ := st_num (Z := fun j => j = 5) g5 hi4 hlo hN
      rw [hC1, hD1] at a3
      have fD1 : rfr (sY b (fun j => j = 4 ∨ j = 5)) D1.2 (zuI D1.2 475 b D1.1) := rfr.rf.uI (Or.inr ⟨by omega, by omega, rfl, by omega⟩)
      have wc : ∀ {σ1 σ2 : zS}, rfr (sZ q (fun j => j = 5)) σ1 σ2 → rfr (sZ q (fun j => j = 4 ∨ j = 5)) σ1 σ2 := fun h => h.wk (fun Q j y => y.elim Or.inl (fun y => Or.inr (y.elim Or.inl (fun y => Or.inr ⟨y.1, y.2.1, Or.inr y.2.2⟩))))
      have wm : ∀ {σ1 σ2 : zS}, rfr (sY b (fun j => j = 5)) σ1 σ2 → rfr (sY b (fun j => j = 4 ∨ j = 5)) σ1 σ2 := fun h => h.wk (fun Q j y => y.elim Or.inl (fun y => Or.inr ⟨y.1, y.2.1, y.2.2.1, Or.inr y.2.2.2⟩))
      rw [if_neg u1n]
      rcases a3 with ⟨b1, b2, b3, b4⟩ | ⟨b1, b3, b4, x', l1', l2', b5, b6, s3, e3, kd3, v3, w3, g6, g7, -⟩
      · obtain ⟨c, p, c1, c2, c3, c4, c5, c6, c7⟩ := b2.set (Q := 475) (j := b) (x := D1.1) (by omega)
        obtain ⟨d1, d2⟩ := rf_need_bad (N := N) (x := 59) c1 c2 c6
        rw [if_pos b1, d2]
        exact ⟨x1, x2, fun _ => ⟨z2, a2⟩, fun _ => ⟨z1, fun _ => ⟨g3.2.2.1.1, a1, fun z => absurd b1 z⟩⟩, d1, Or.inl ⟨rfl, ⟨c, p, c1, c2, c3, c4, c5, c6, c7⟩, ((y4.tr u3).tr fCc).tr (wc b3), (((y5.tr u4).tr fD).tr (wm b4)).tr fD1⟩⟩
      · have b1n : ¬ C1.1 = 0 := by rw [b1]; exact n10
        have g8 := g6.set (Q := q) (j := 5) (x := C1.2.1 2 5) (Q1 := 475) (j1 := b) (y := D1.1) (by omega) (by omega)
        have fC1 : rfr (sZ q (fun j => j = 4 ∨ j = 5)) C1.2 (zuI C1.2 q 5 (C1.2.1 2 5)) := rfr.rf.uI (Or.inr (Or.inr ⟨rfl, by omega, Or.inr rfl⟩))
        obtain ⟨w1', w2', w3'⟩ := st_sign (Z := fun j => j = 4 ∨ j = 5) (c := 59) g8 (by decide) hN
        have w1' : p_X3_readSign 59 N (zuI C1.2 q 5 (C1.2.1 2 5)) := w1'
        have w2' : p_X9_need 59 N (zuI D1.2 475 b D1.1) := w2'
        rw [if_neg b1n]
        refine ⟨x1, x2, fun _ => ⟨z2, a2⟩, fun _ => ⟨z1, fun _ => ⟨g3.2.2.1.1, a1, fun _ => ⟨g6.2.2.1.1, w1'⟩⟩⟩, w2', ?_⟩
        rcases w3' with ⟨t1, t2, t3, t4⟩ | ⟨t1, t3, t4, s4, e4, kd4, v4, w4, g9, g10⟩
        · left
          exact ⟨t1, t2, ((((y4.tr u3).tr fCc).tr (wc b3)).tr fC1).tr t3, ((((y5.tr u4).tr fD).tr (wm b4)).tr fD1).tr t4⟩
        · right
          have t3z : rfr sTC (zuI C1.2 q 5 (C1.2.1 2 5)) (r_X3_readSign 59 N (zuI C1.2 q 5 (C1.2.1 2 5))).2 := t3
          have t4z : rfr sTM (zuI D1.2 475 b D1.1) (s_X9_need 59 N (zuI D1.2 475 b D1.1)) := t4
          refine ⟨t1, ((((y4.tr u3).tr fCc).tr (wc b3)).tr fC1).tr t3z.zc, ((((y5.tr u4).tr fD).tr (wm b4)).tr fD1).tr t4z.zm, ⟨x, x', l2, l2', ?_, ?_, ?_, ?_⟩, m1, s4, e4, kd4, v4, w4, g9, ?_, mo⟩
          · rw [t3z.2 _ _ (fun z => by unfold sTC at z; omega), gI_n (by omega), b3.2 _ _ (fun z => by unfold sZ at z; omega), gI_h rfl rfl, u5]
          · rw [t4z.2 _ _ (fun z => by unfold sTM at z; omega), gI_n (by omega), b4.2 _ _ (fun z => by unfold sY at z; omega), gI_h rfl rfl, u6]
          · rw [t3z.2 _ _ (fun z => by unfold sTC at z; omega), gI_h rfl rfl, b5]
          · rw [t4z.2 _ _ (fun z => by unfold sTM at z; omega), gI_h rfl rfl, b6]
          · have := g1.2.2.2.1.1
            have := g3.2.2.2.1.1
            have := g6.2.2.2.1.1
            omega
end IS
