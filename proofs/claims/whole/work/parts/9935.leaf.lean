/-! a number as a unit -/
section IS
variable {N : Nat} {E : EV} {σ σ1 σ2 τ τ1 τ2 : zS} {K K1 K2 : aK} {H H1 : Nat → Nat}
theorem TKs.eq {tx : Nat → Nat} {nb s e kd v w : Nat} (h : TKs tx nb s e kd v w σ τ) (h1 : ∀ j, 2 ≤ j → j ≤ 5 → σ1.1 3 j = σ.1 3 j) (h2 : ∀ j, 20 ≤ j → j ≤ 24 → τ1.1 468 j = τ.1 468 j) : TKs tx nb s e kd v w σ1 τ1 := by
  obtain ⟨a1, a2, a3, a4, a5, a6, a7, a8, a9, a10, a11, a12⟩ := h
  refine ⟨a1, a2, a3, a4, a5, (h1 _ (by omega) (by omega)).trans a6, (h1 _ (by omega) (by omega)).trans a7, (h1 _ (by omega) (by omega)).trans a8, fun y => (h1 _ (by omega) (by omega)).trans (a9 y), (h2 _ (by omega) (by omega)).trans a10, (h2 _ (by omega) (by omega)).trans a11, ?_⟩
  unfold RK at a12 ⊢
  rw [h2 22 (by omega) (by omega), h2 23 (by omega) (by omega), h2 24 (by omega) (by omega)]
  exact a12
def miK (K : aK) (L j : Nat) : aK := (fun i => if L ≤ i ∧ i < L + j then 7 else K.1 i, fun i => if L ≤ i ∧ i < L + j then 0 else K.2.1 i, K.2.2)
theorem miK_ag {L j : Nat} : agK K (miK K L j) L := ⟨fun i hi => ⟨if_neg (by omega), if_neg (by omega)⟩, rfl⟩
theorem miK_m {L j i : Nat} (h1 : L ≤ i) (h2 : i < L + j) : (miK K L j).1 i = 7 ∧ (miK K L j).2.1 i = 0 := ⟨if_pos ⟨h1, h2⟩, if_pos ⟨h1, h2⟩⟩
theorem TS.ag {L L1 F : Nat} (h : TS K H L K1 H1 L1 F) (g : agK K1 K2 L1) : TS K H L K2 H1 L1 F := ⟨h.1.tr g h.2.2.1, h.2.1, h.2.2.1, fun i i1 i2 => ⟨(h.2.2.2 i i1 i2).1, (h.2.2.2 i i1 i2).2.upi (g.1 i i2).1 (g.1 i i2).2 g.2 (fun _ _ => rfl) i2 (Nat.le_refl _)⟩⟩
/-- the reference's way through a leaf: laid, on to the next token, minuses laid -/
theorem rf_leaf {b L o j wt d u : Nat} {W : Nat → Nat} {x : Int32} (hb : b < 2) (hM : MKc τ b K L) (hL : L + 1 + j ≤ 400) (hS : SKs τ (wt + j) W) (hW : ∀ i, wt ≤ i → i < wt + j → W i = 7) (h0 : wt = 0 ∨ ¬ W (wt - 1) = 7) (hd : τ.1 468 38 = nI (d + j)) (hx : x = K.2.1 L) (ho : K.1 L = o) (hK : ∀ i, L + 1 ≤ i → i < L + 1 + j → K.1 i = 7 ∧ K.2.1 i = 0) (hN : 3000 < N) (j9 : j ≤ 100) : p_X9_lay (nI b) (nI o) x (zuI τ 478 b (nI (u + 1))) ∧ ∃ τL, zuI (s_X9_lay (nI b) (nI o) x (zuI τ 478 b (nI (u + 1)))) 468 39 2 = τL ∧ rfr (sRM b) τ τL ∧ (∀ jx, 20 ≤ jx → jx ≤ 26 → τL.1 468 jx = τ.1 468 jx) ∧ (∀ Q j, (Q = 485 ∨ Q = 486 ∨ (Q = 468 ∧ j = 19) ∨ Q = 490 ∨ Q = 491) → τL.1 Q j = τ.1 Q j) ∧ τL.1 478 b = nI (u + 1) ∧ ∀ τS, rfr sTM τL τS → τS.1 468 39 = 2 ∧ p_X9_closeMinus (nI b) N τS ∧ ∃ τ1, s_X9_closeMinus (nI b) N τS = τ1 ∧ SKs τ1 wt W ∧ MKc τ1 b K (L + 1 + j) ∧ τ1.1 468 38 = nI d ∧ rfr (fun Q j => sLa b Q j ∨ (Q = 468 ∧ (j = 37 ∨ j = 38))) τS τ1 := by
  have hM1 : MKc (zuI τ 478 b (nI (u + 1))) b K L := hM.eq (fun Q j y => gI_n (by omega))
  obtain ⟨l1, l2, l3⟩ := rf_lay (x := nI o) (y := x) hM1 hb (by omega) (by rw [ho]) hx
  generalize hτL : zuI (s_X9_lay (nI b) (nI o) x (zuI τ 478 b (nI (u + 1)))) 468 39 2 = τL
  have oL : ∀ Q j, ¬ (sLa b Q j ∨ (Q = 478 ∧ j = b) ∨ (Q = 468 ∧ j = 39)) → τL.1 Q j = τ.1 Q j := fun Q j y => by
    rw [← hτL, gI_n (fun z => y (Or.inr (Or.inr z))), l3.2 _ _ (fun z => y (Or.inl z)), gI_n (fun z => y (Or.inr (Or.inl z)))]
  refine ⟨l1, τL, rfl, ⟨by rw [← hτL]; exact l3.1, fun Q j y => oL Q j (fun z => y ?_)⟩, fun jx y1 y2 => oL _ _ (fun z => by unfold sLa at z; omega), fun Q j y => oL _ _ (fun z => by unfold sLa at z; omega), ?_, fun τS hf => ?_⟩
  · unfold sRM
    rcases z with z | z | z
    · exact Or.inr (Or.inr (Or.inl z))
    · exact Or.inr (Or.inl z)
    · exact Or.inl ⟨z.1, Or.inr ⟨by omega, by omega⟩⟩
  · rw [← hτL, gI_n (by omega), l3.2 _ _ (fun z => by unfold sLa at z; omega), gI_h rfl rfl]
  · have oS : ∀ Q j, ¬ (Q = 468 ∧ 20 ≤ j ∧ j ≤ 24) → τS.1 Q j = τL.1 Q j := hf.2
    have sS : SKs τS (wt + j) W := hS.eq ((oS _ _ (by omega)).trans (oL _ _ (fun z => by unfold sLa at z; omega))) (fun i _ => (oS _ _ (by omega)).trans (oL _ _ (fun z => by unfold sLa at z; omega)))
    have mS : MKc τS b K (L + 1) := l2.eq (fun Q j y => by rw [oS _ _ (by omega), ← hτL, gI_n (by omega)])
    have dS : τS.1 468 38 = nI (d + j) := by rw [oS _ _ (by omega), oL _ _ (fun z => by unfold sLa at z; omega), hd]
    obtain ⟨c1, c2, c3, c4, c5⟩ := rf_minus (N := N) hb h0 j d (L + 1) τS sS hW mS (by omega) hK dS N (by omega)
    refine ⟨?_, c1, _, rfl, c2, c3, c4, c5⟩
    rw [oS _ _ (by omega), ← hτL]
    exact gI_h rfl rfl
end IS
