/-! the two parsers side by side -/
/-- what stays while a formula is read: text, place of the program, bank, names of functions and parameters, how many each takes -/
def EV : Type := Nat × (Nat → Nat) × Nat × Nat × Nat × (Nat → Nat) × (Nat → Nat) × Nat × (Nat → Nat) × (Nat → Nat) × (Nat → Nat)
def EV.nb (E : EV) : Nat := E.1
def EV.tx (E : EV) : Nat → Nat := E.2.1
def EV.q (E : EV) : Nat := E.2.2.1
def EV.b (E : EV) : Nat := E.2.2.2.1
def EV.nf (E : EV) : Nat := E.2.2.2.2.1
def EV.fa (E : EV) : Nat → Nat := E.2.2.2.2.2.1
def EV.fl (E : EV) : Nat → Nat := E.2.2.2.2.2.2.1
def EV.np (E : EV) : Nat := E.2.2.2.2.2.2.2.1
def EV.pa (E : EV) : Nat → Nat := E.2.2.2.2.2.2.2.2.1
def EV.pl (E : EV) : Nat → Nat := E.2.2.2.2.2.2.2.2.2.1
def EV.ar (E : EV) : Nat → Nat := E.2.2.2.2.2.2.2.2.2.2
section IS
variable {N : Nat} {E : EV} {σ σ1 σ2 τ τ1 τ2 : zS} {K K1 : aK}
def EN (E : EV) (σ τ : zS) : Prop := TC E.nb E.tx σ ∧ TM E.nb E.tx τ ∧ NmF E.nb E.nf E.fa E.fl σ τ ∧ NmP E.nb E.np E.pa E.pl σ τ ∧ (σ.2 2 1 = E.q + 1 ∧ (E.q = 16 ∨ E.q = 23) ∧ E.b < 2) ∧ (σ.1 E.q 6 = nI E.nf ∧ τ.1 476 E.b = nI E.nf) ∧ (σ.1 2 7 = nI E.np ∧ τ.1 468 32 = nI E.np) ∧ ∀ f, f < E.nf → E.ar f ≤ 4 ∧ σ.1 (E.q + 2) f = nI (E.ar f) ∧ τ.1 481 (6 * E.b + f) = nI (E.ar f)
/-- what the class's part may change, what the reference's -/
def sRC (q Q j : Nat) : Prop := (Q = 3 ∧ 2 ≤ j ∧ j ≤ 5) ∨ (Q = 2 ∧ (j = 5 ∨ j = 6)) ∨ (Q = q ∧ (j = 8 ∨ j = 9)) ∨ Q = q + 5 ∨ Q = q + 6
def sRM (b Q j : Nat) : Prop := (Q = 468 ∧ ((20 ≤ j ∧ j ≤ 24) ∨ (37 ≤ j ∧ j ≤ 39))) ∨ (Q = 478 ∧ j = b) ∨ sLa b Q j ∨ (489 ≤ Q ∧ Q ≤ 491)
/-- with a fault: where it is told, too -/
def sRD (q Q j : Nat) : Prop := sRC q Q j ∨ (Q = 2 ∧ (j = 2 ∨ j = 3))
def sRN (b Q j : Nat) : Prop := sRM b Q j ∨ (Q = 468 ∧ (j = 25 ∨ j = 26))
theorem rfr.dd {q : Nat} (h : rfr (sRC q) σ σ1) : rfr (sRD q) σ σ1 := h.wk (fun Q j y => Or.inl y)
theorem rfr.nn {b : Nat} (h : rfr (sRM b) τ τ1) : rfr (sRN b) τ τ1 := h.wk (fun Q j y => Or.inl y)
theorem EN.fr (h : EN E σ τ) (hc : rfr (sRC E.q) σ σ1) (hm : rfr (sRM E.b) τ τ1) : EN E σ1 τ1 := by
  obtain ⟨a1, a2, a3, a4, ⟨a5, a6, a7⟩, ⟨a8, a9⟩, ⟨a10, a11⟩, a12⟩ := h
  have c : ∀ Q j, ¬ sRC E.q Q j → σ1.1 Q j = σ.1 Q j := hc.2
  have m : ∀ Q j, ¬ sRM E.b Q j → τ1.1 Q j = τ.1 Q j := hm.2
  refine ⟨a1.eq (fun Q j z => c _ _ (fun y => by unfold sRC at y; omega)) (by rw [hc.1]), a2.eq (fun Q j z => m _ _ (fun y => by unfold sRM sLa at y; omega)), ⟨a3.1, fun i hi => ?_⟩, ⟨a4.1, fun i hi => ?_⟩, ⟨by rw [hc.1]; exact a5, a6, a7⟩, ⟨(c _ _ (fun y => by unfold sRC at y; omega)).trans a8, (m _ _ (fun y => by unfold sRM sLa at y; omega)).trans a9⟩, ⟨(c _ _ (fun y => by unfold sRC at y; omega)).trans a10, (m _ _ (fun y => by unfold sRM sLa at y; omega)).trans a11⟩, fun f hf => ?_⟩
  · obtain ⟨x0, x1, x2, x3, x4⟩ := a3.2 i hi
    exact ⟨x0, (c _ _ (fun y => by unfold sRC at y; omega)).trans x1, (c _ _ (fun y => by unfold sRC at y; omega)).trans x2, (m _ _ (fun y => by unfold sRM sLa at y; omega)).trans x3, (m _ _ (fun y => by unfold sRM sLa at y; omega)).trans x4⟩
  · obtain ⟨x0, x1, x2, x3, x4⟩ := a4.2 i hi
    exact ⟨x0, (c _ _ (fun y => by unfold sRC at y; omega)).trans x1, (c _ _ (fun y => by unfold sRC at y; omega)).trans x2, (m _ _ (fun y => by unfold sRM sLa at y; omega)).trans x3, (m _ _ (fun y => by unfold sRM sLa at y; omega)).trans x4⟩
  · obtain ⟨x0, x1, x2⟩ := a12 f hf
    exact ⟨x0, (c _ _ (fun y => by unfold sRC at y; omega)).trans x1, (m _ _ (fun y => by unfold sRM sLa at y; omega)).trans x2⟩
theorem rfr.tc (h : rfr sTC σ σ1) : rfr (sRC E.q) σ σ1 := h.wk (fun Q j y => Or.inl y)
theorem rfr.tm (h : rfr sTM τ τ1) : rfr (sRM E.b) τ τ1 := h.wk (fun Q j y => by
  have y : Q = 468 ∧ 20 ≤ j ∧ j ≤ 24 := y
  exact Or.inl ⟨y.1, Or.inl ⟨by omega, by omega⟩⟩)
theorem rfr.em (h : rfr (sEm E.q) σ σ1) : rfr (sRC E.q) σ σ1 := h.wk (fun Q j y => by
  have y : (Q = E.q ∧ j = 9) ∨ Q = E.q + 5 ∨ Q = E.q + 6 := y
  unfold sRC
  omega)
theorem rfr.la (h : rfr (sLa E.b) τ τ1) : rfr (sRM E.b) τ τ1 := h.wk (fun Q j y => Or.inr (Or.inr (Or.inl y)))
/-- the reference's loop goes on -/
def Rn (N b j : Nat) (τ τ1 : zS) : Prop := ∀ z, l_X9_readBody N (z + j) (nI b) τ = l_X9_readBody N z (nI b) τ1 ∧ (q_X9_readBody N z (nI b) τ1 → q_X9_readBody N (z + j) (nI b) τ)
theorem Rn.rf {b : Nat} : Rn N b 0 τ τ := fun _ => ⟨rfl, fun y => y⟩
theorem Rn.tr {b j k : Nat} (h : Rn N b j τ τ1) (g : Rn N b k τ1 τ2) : Rn N b (j + k) τ τ2 := fun z => by
  obtain ⟨h1, h2⟩ := h (z + k)
  obtain ⟨g1, g2⟩ := g z
  rw [show z + (j + k) = z + k + j by omega]
  exact ⟨h1.trans g1, fun y => h2 (g2 y)⟩
theorem rn_unit {b sg : Nat} (h0 : τ.1 468 25 = 0) (hs : τ.1 468 39 = nI sg) (hs1 : sg ≤ 1) (hw : sg = 0 → f_X9_isWord 10 τ = 0) (hp : p_X9_readUnit (nI b) N τ) : Rn N b 1 τ (s_X9_readUnit (nI b) N τ) := fun z => by
  have n3 : ¬ nI sg = 3 := fun y => by have := (nI_eq (b := 3) (by omega) (by decide)).mp y; omega
  have n2 : ¬ nI sg = 2 := fun y => by have := (nI_eq (b := 2) (by omega) (by decide)).mp y; omega
  have e1 : u_X9_readBody_h0_1 N (nI b) τ = s_X9_readUnit (nI b) N τ := rfl
  have e2 : u_X9_readBody_h0_2 N (nI b) τ = s_X9_readUnit (nI b) N τ := rfl
  by_cases c : nI sg = 0
  · have c0 : sg = 0 := (nI_eq (b := 0) (by omega) (by decide)).mp c
    refine ⟨?_, fun y => ?_⟩
    · rw [l_X9_readBody, h0, if_pos rfl, hs, if_neg n3, if_neg n2, if_pos c, hw c0, if_pos rfl, e2]
    · rw [q_X9_readBody, h0, hs, hw c0, e2]
      exact fun _ _ => ⟨fun _ => ⟨fun y1 => absurd c y1, fun _ => ⟨fun _ => ⟨hp, y⟩, fun y1 => absurd rfl y1⟩⟩, fun y1 => absurd y1 n2⟩
  · refine ⟨?_, fun y => ?_⟩
    · rw [l_X9_readBody, h0, if_pos rfl, hs, if_neg n3, if_neg n2, if_neg c, e1]
    · rw [q_X9_readBody, h0, hs, e1]
      exact fun _ _ => ⟨fun _ => ⟨fun _ => ⟨hp, y⟩, fun y1 => absurd y1 c⟩, fun y1 => absurd y1 n2⟩
theorem rn_if {b : Nat} (h0 : τ.1 468 25 = 0) (hs : τ.1 468 39 = 0) (hw : f_X9_isWord 10 τ = 1) (hp : p_X9_openIf (nI b) N τ) : Rn N b 1 τ (s_X9_openIf (nI b) N τ) := fun z => by
  have n10 : ¬ (1 : Int32) = 0 := by decide
  have n3 : ¬ (0 : Int32) = 3 := by decide
  have n2 : ¬ (0 : Int32) = 2 := by decide
  have e1 : u_X9_readBody_h0_3 N (nI b) τ = s_X9_openIf (nI b) N τ := rfl
  refine ⟨?_, fun y => ?_⟩
  · rw [l_X9_readBody, h0, if_pos rfl, hs, if_neg n3, if_neg n2, if_pos rfl, hw, if_neg n10, e1]
  · rw [q_X9_readBody, h0, hs, hw, e1]
    exact fun _ _ => ⟨fun _ => ⟨fun y1 => absurd rfl y1, fun _ => ⟨fun y1 => absurd y1 n10, fun _ => ⟨hp, y⟩⟩⟩, fun y1 => absurd y1 n2⟩
theorem rn_behind {b : Nat} (h0 : τ.1 468 25 = 0) (hs : τ.1 468 39 = 2) (hp : p_X9_goBehind (nI b) N τ) : Rn N b 1 τ (s_X9_goBehind (nI b) N τ) := fun z => by
  have n3 : ¬ (2 : Int32) = 3 := by decide
  have e1 : u_X9_readBody_h0_4 N (nI b) τ = s_X9_goBehind (nI b) N τ := rfl
  refine ⟨?_, fun y => ?_⟩
  · rw [l_X9_readBody, h0, if_pos rfl, hs, if_neg n3, if_pos rfl, e1]
  · rw [q_X9_readBody, h0, hs, e1]
    exact fun _ _ => ⟨fun y1 => absurd rfl y1, fun _ => ⟨hp, y⟩⟩
/-- with a fault, or the formula over, it stops -/
theorem rn_stop {b z : Nat} (h : (¬ τ.1 468 25 = 0) ∨ τ.1 468 39 = 3) : l_X9_readBody N (z + 1) (nI b) τ = τ ∧ q_X9_readBody N (z + 1) (nI b) τ := by
  rw [l_X9_readBody, q_X9_readBody]
  by_cases c : τ.1 468 25 = 0
  · have c3 : τ.1 468 39 = 3 := by
      rcases h with y | y
      · exact absurd c y
      · exact y
    rw [if_pos c, if_pos c3]
    exact ⟨rfl, fun _ y => absurd c3 y⟩
  · rw [if_neg c]
    exact ⟨rfl, fun y => absurd y c⟩
/-- THE RELATION while a formula is read: token s e kd v w, units u, code K up to Lc (class) and LR (reference), what waits wt W, depth d, stage sg -/
def PS (E : EV) (s e kd v w u : Nat) (K : aK) (Lc LR wt : Nat) (W : Nat → Nat) (d sg : Nat) (σ τ : zS) : Prop := EN E σ τ ∧ TKs E.tx E.nb s e kd v w σ τ ∧ (σ.1 E.q 8 = nI u ∧ τ.1 478 E.b = nI u ∧ u ≤ 80) ∧ CKc σ E.q K Lc ∧ MKc τ E.b K LR ∧ SKs τ wt W ∧ τ.1 468 38 = nI d ∧ τ.1 468 39 = nI sg ∧ τ.1 468 25 = 0
/-- both found the same fault at the same place -/
def FT (σ τ : zS) : Prop := ∃ c p, 1 ≤ c ∧ c ≤ 5 ∧ p ≤ 1000 ∧ σ.1 2 2 = nI c ∧ σ.1 2 3 = nI p ∧ τ.1 468 25 = nI c ∧ τ.1 468 26 = nI p
end IS
