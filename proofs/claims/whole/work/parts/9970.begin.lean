/-! a store's beginning: cleared on both sides, the first token -/
section IS
variable {N nb q b : Nat} {tx : Nat → Nat} {σ σ1 σ2 τ τ1 τ2 : zS}
theorem cl_clear (hN : 200 < N) : p_X2_clear q N σ ∧ (∀ j, j < 16 → (s_X2_clear q N σ).1 (q + 4) j = 0) ∧ ((s_X2_clear q N σ).1 q 0 = nI 6 ∧ (s_X2_clear q N σ).1 q 1 = nI 0 ∧ (s_X2_clear q N σ).1 q 2 = nI 0 ∧ (s_X2_clear q N σ).1 q 3 = nI 8 ∧ (s_X2_clear q N σ).1 q 4 = nI 10 ∧ (s_X2_clear q N σ).1 q 5 = nI 1 ∧ (s_X2_clear q N σ).1 q 6 = nI 0 ∧ (s_X2_clear q N σ).1 q 7 = nI 0 ∧ (s_X2_clear q N σ).1 q 8 = nI 0 ∧ (s_X2_clear q N σ).1 q 9 = nI 0) ∧ (∀ Q j, ¬ Q = q → ¬ Q = q + 4 → (s_X2_clear q N σ).1 Q j = σ.1 Q j) ∧ (s_X2_clear q N σ).2 = σ.2 := by
  obtain ⟨f1, f2, f3, f4⟩ := cl_fill (n := 16) (q := q + 4) (x := 0) (N := N) (σ := u_X2_clear_10 q N σ) (by omega) (by decide)
  have es : s_X2_clear q N σ = s_J7_fill_53178 16 (q + 4) 0 N (u_X2_clear_10 q N σ) := rfl
  have e10 : u_X2_clear_10 q N σ = zuI (zuI (zuI (zuI (zuI (zuI (zuI (zuI (zuI (zuI σ q 0 6) q 1 0) q 2 0) q 3 8) q 4 10) q 5 1) q 6 0) q 7 0) q 8 0) q 9 0 := rfl
  rw [es]
  have g : ∀ j, (s_J7_fill_53178 16 (q + 4) 0 N (u_X2_clear_10 q N σ)).1 q j = (u_X2_clear_10 q N σ).1 q j := fun j => f3 _ _ (by omega)
  refine ⟨f1, f2, ⟨(g _).trans ?_, (g _).trans ?_, (g _).trans ?_, (g _).trans ?_, (g _).trans ?_, (g _).trans ?_, (g _).trans ?_, (g _).trans ?_, (g _).trans ?_, (g _).trans ?_⟩, fun Q j y1 y2 => (f3 _ _ (by omega)).trans ?_, f4.trans (by rw [e10]; rfl)⟩
  all_goals rw [e10]
  all_goals ((repeat (first | refine Eq.trans (gI_h (by omega) (by omega)) ?_ | refine Eq.trans (gI_n (by omega)) ?_ | refine Eq.trans gR_1 ?_)) <;> (try rfl))
def bgM (b : Nat) (τ : zS) : zS := zuI (zuI (zuI (zuI (zuI (zuI (zuI (zuI (zuI (zuI (zuI (zuI (zuI (zuI (zuI (zuI τ 468 19 (τ.1 468 18)) 468 18 0) 468 20 0) 468 25 0) 468 26 (-1)) 468 33 0) 470 b 6) 471 b 0) 472 b 0) 473 b 8) 474 b 10) 475 b 1) 476 b 0) 477 b 0) 478 b 0) 479 b 0
theorem bgm_eq (b2 : b < 2) : s_X9_clearBank (nI b) (u_X9_store_6 N τ) = bgM b τ := by
  have cb : (nI b).toNatClampNeg = b := nI_clamp (by omega)
  unfold s_X9_clearBank u_X9_clearBank_10 u_X9_clearBank_9 u_X9_clearBank_8 u_X9_clearBank_7 u_X9_clearBank_6 u_X9_clearBank_5 u_X9_clearBank_4 u_X9_clearBank_3 u_X9_clearBank_2 u_X9_clearBank_1
  rw [cb]
  rfl
def bgC (q nt N : Nat) (σ : zS) : zS := zuI (zuI (zuR (zuI (zuI (zuI (zuI (s_X2_clear q N (zuR σ 2 1 (q + 1))) 2 2 0) 2 3 (-1)) 2 4 0) 2 6 (-1)) 3 0 2) 3 1 (nI nt)) 3 4 0
theorem bgc_eq {nt : Nat} (nt1 : nt ≤ 1000) : u_X6_open_3 1000 1 (nI nt) N (u_X3_readStore_6 q 1000 1 (nI nt) N σ) = bgC q nt N σ := by
  have e1 : (u_X6_open_1 1000 1 (nI nt) N (u_X3_readStore_6 q 1000 1 (nI nt) N σ)).2 3 0 = 2 := gR_hit
  have e2 : (zlay ((u_X6_open_1 1000 1 (nI nt) N (u_X3_readStore_6 q 1000 1 (nI nt) N σ)).2 3 0 - 1)).2 = 1000 := by rw [e1]; decide
  have e3 : (u_X3_readStore_1 q 1000 1 (nI nt) N σ).2 2 1 = q + 1 := gR_hit
  have e4 : u_X3_readStore_2 q 1000 1 (nI nt) N σ = s_X2_clear q N (zuR σ 2 1 (q + 1)) := by
    unfold u_X3_readStore_2
    rw [e3]
    rfl
  unfold u_X6_open_3 u_X6_open_2
  rw [e2, if_neg (show ¬ Int32.ofNat 1000 < nI nt from nI_nlt (a := 1000) (by omega) (by decide))]
  unfold u_X6_open_1 u_X3_readStore_6 u_X3_readStore_5 u_X3_readStore_4 u_X3_readStore_3
  rw [e4]
  rfl
theorem bg_at {Q j : Nat} (h : ¬ (Q = 468 ∧ 18 ≤ j ∧ j ≤ 33)) (h1 : ¬ (470 ≤ Q ∧ Q ≤ 479 ∧ j = b)) : (bgM b τ).1 Q j = τ.1 Q j := by
  unfold bgM
  ((repeat (first | refine Eq.trans (gI_h (by omega) (by omega)) ?_ | refine Eq.trans (gI_n (by omega)) ?_ | refine Eq.trans gR_1 ?_)) <;> (try rfl))
theorem st_head {nt : Nat} (q3 : q = 16 ∨ q = 23) (b2 : b < 2) (nt1 : nt ≤ 1000) (ht : ∀ i, i < nt → tx i < 256 ∧ σ.1 1 i = nI (tx i) ∧ τ.1 485 i = sgnB (tx i)) (hl : LTE τ) (h18 : τ.1 468 18 = nI nt) (hN : 200000 < N) : p_X2_clear q N (zuR σ 2 1 (q + 1)) ∧ p_X6_next N (bgC q nt N σ) ∧ p_X9_scan N (bgM b τ) ∧ (∃ s e kd v w, LHD nt tx q b s e kd v w (s_X6_next N (bgC q nt N σ)) (s_X9_scan N (bgM b τ))) ∧ (∀ Q j, ¬ Q = 2 → ¬ Q = 3 → ¬ (q ≤ Q ∧ Q ≤ q + 6) → (s_X6_next N (bgC q nt N σ)).1 Q j = σ.1 Q j) ∧ (∀ Q j, ¬ Q = 2 → ¬ Q = 3 → (s_X6_next N (bgC q nt N σ)).2 Q j = σ.2 Q j) ∧ (∀ Q j, ¬ (Q = 468 ∧ 18 ≤ j ∧ j ≤ 33) → ¬ (470 ≤ Q ∧ Q ≤ 479 ∧ j = b) → (s_X9_scan N (bgM b τ)).1 Q j = τ.1 Q j) ∧ (s_X9_scan N (bgM b τ)).2 = τ.2 ∧ (s_X9_scan N (bgM b τ)).1 468 18 = 0 := by
  obtain ⟨k1, k2, ⟨v0, v1, v2, v3, v4, v5, v6, v7, v8, v9⟩, k4, k5⟩ := cl_clear (q := q) (N := N) (σ := zuR σ 2 1 (q + 1)) (by omega)
  have cA : ∀ Q j, ¬ Q = 2 → ¬ Q = 3 → (bgC q nt N σ).1 Q j = (s_X2_clear q N (zuR σ 2 1 (q + 1))).1 Q j := fun Q j y1 y2 => by
    unfold bgC
    ((repeat (first | refine Eq.trans (gI_h (by omega) (by omega)) ?_ | refine Eq.trans (gI_n (by omega)) ?_ | refine Eq.trans gR_1 ?_)) <;> (try rfl))
  have c2 : (bgC q nt N σ).1 2 2 = 0 ∧ (bgC q nt N σ).1 2 3 = -1 ∧ (bgC q nt N σ).1 2 4 = nI 0 ∧ (bgC q nt N σ).1 2 6 = -1 ∧ (bgC q nt N σ).1 3 1 = nI nt ∧ (bgC q nt N σ).1 3 4 = nI 0 := by
    unfold bgC
    refine ⟨?_, ?_, ?_, ?_, ?_, ?_⟩
    all_goals ((repeat (first | refine Eq.trans (gI_h (by omega) (by omega)) ?_ | refine Eq.trans (gI_n (by omega)) ?_ | refine Eq.trans gR_1 ?_)) <;> (try rfl))
  obtain ⟨c22, c23, c24, c26, c31, c34⟩ := c2
  have r30 : (bgC q nt N σ).2 3 0 = 2 := by
    show (zuR (zuI (zuI (zuI (zuI (s_X2_clear q N (zuR σ 2 1 (q + 1))) 2 2 0) 2 3 (-1)) 2 4 0) 2 6 (-1)) 3 0 2).2 3 0 = 2
    exact gR_hit
  have r21 : (bgC q nt N σ).2 2 1 = q + 1 := by
    show (zuR (zuI (zuI (zuI (zuI (s_X2_clear q N (zuR σ 2 1 (q + 1))) 2 2 0) 2 3 (-1)) 2 4 0) 2 6 (-1)) 3 0 2).2 2 1 = q + 1
    rw [gR_a (by omega)]
    show (s_X2_clear q N (zuR σ 2 1 (q + 1))).2 2 1 = q + 1
    rw [k5]
    exact gR_hit
  have rO : ∀ Q j, ¬ Q = 2 → ¬ Q = 3 → (bgC q nt N σ).2 Q j = σ.2 Q j := fun Q j y1 y2 => by
    show (zuR (zuI (zuI (zuI (zuI (s_X2_clear q N (zuR σ 2 1 (q + 1))) 2 2 0) 2 3 (-1)) 2 4 0) 2 6 (-1)) 3 0 2).2 Q j = _
    rw [gR_a y2]
    show (s_X2_clear q N (zuR σ 2 1 (q + 1))).2 Q j = _
    rw [k5]
    exact gR_a y1
  have cO : ∀ Q j, ¬ Q = 2 → ¬ Q = 3 → ¬ (q ≤ Q ∧ Q ≤ q + 6) → (bgC q nt N σ).1 Q j = σ.1 Q j := fun Q j y1 y2 y3 => (cA Q j y1 y2).trans ((k4 Q j (by omega) (by omega)).trans gR_1)
  have m : (bgM b τ).1 468 18 = 0 ∧ (bgM b τ).1 468 19 = nI nt ∧ (bgM b τ).1 468 20 = nI 0 ∧ (bgM b τ).1 468 25 = 0 ∧ (bgM b τ).1 468 26 = -1 ∧ (bgM b τ).1 468 33 = nI 0 ∧ (bgM b τ).1 470 b = nI 6 ∧ (bgM b τ).1 471 b = nI 0 ∧ (bgM b τ).1 472 b = nI 0 ∧ (bgM b τ).1 473 b = nI 8 ∧ (bgM b τ).1 474 b = nI 10 ∧ (bgM b τ).1 475 b = nI 1 ∧ (bgM b τ).1 476 b = nI 0 ∧ (bgM b τ).1 477 b = nI 0 ∧ (bgM b τ).1 478 b = nI 0 ∧ (bgM b τ).1 479 b = nI 0 := by
    rw [← h18]
    unfold bgM
    refine ⟨?_, ?_, ?_, ?_, ?_, ?_, ?_, ?_, ?_, ?_, ?_, ?_, ?_, ?_, ?_, ?_⟩
    all_goals ((repeat (first | refine Eq.trans (gI_h (by omega) (by omega)) ?_ | refine Eq.trans (gI_n (by omega)) ?_ | refine Eq.trans gR_1 ?_)) <;> (try rfl))
  obtain ⟨m18, m19, m20, m25, m26, m33, m470, m471, m472, m473, m474, m475, m476, m477, m478, m479⟩ := m
  have hC : TC nt tx (bgC q nt N σ) := ⟨r30, c31, nt1, fun i hi => ⟨(ht i hi).1, (cO _ _ (by omega) (by omega) (by omega)).trans (ht i hi).2.1⟩⟩
  have hM : TM nt tx (bgM b τ) := ⟨m19, nt1, fun i hi => ⟨(ht i hi).1, (bg_at (by omega) (by omega)).trans (ht i hi).2.2⟩, fun i hi => (bg_at (by omega) (by omega)).trans (hl i hi)⟩
  obtain ⟨n1, n2, -, s, e, kd, v, w, t1, t2, t3, -⟩ := pr_next (N := N) (p := 0) hC hM c34 m20 (by omega) (by omega)
  generalize bgC q nt N σ = σ1 at *
  generalize hm : bgM b τ = τ1 at *
  generalize s_X6_next N σ1 = σ2 at *
  generalize s_X9_scan N τ1 = τ2 at *
  generalize s_X2_clear q N (zuR σ 2 1 (q + 1)) = σ3 at *
  have c : ∀ Q j, ¬ Q = 3 → σ2.1 Q j = σ1.1 Q j := fun Q j y => t2.2 _ _ (fun z => y z.1)
  have t : ∀ Q j, ¬ (Q = 468 ∧ 20 ≤ j ∧ j ≤ 24) → τ2.1 Q j = τ1.1 Q j := t3.2
  have cq : ∀ Q j, ¬ Q = 2 → ¬ Q = 3 → σ2.1 Q j = σ3.1 Q j := fun Q j y1 y2 => (c Q j y2).trans (cA Q j y1 y2)
  refine ⟨k1, n1, n2, ⟨s, e, kd, v, w, 0, 0, fun _ => 0, fun _ => 0, (fun _ => 0, fun _ => 0, fun _ => 0, fun _ => 0), fun _ => 0, 0, 0, 0, fun _ => 0, fun _ _ => 0, ⟨?_, ?_, ⟨?_, q3, b2⟩, t1, ?_, ⟨?_, ?_, by decide⟩, ?_, ?_, ?_⟩, ⟨⟨by omega, fun i hi => absurd hi (by omega)⟩, ⟨?_, ?_⟩, ⟨?_, ?_, by omega⟩, ⟨fun i hi => absurd hi (by omega), ?_⟩, ⟨fun i hi => absurd hi (by omega), ?_⟩, by omega, fun f hf => absurd hf (by omega), fun i hi => absurd hi (by omega)⟩, ?_, ⟨⟨6, by omega, by omega, ?_, ?_⟩, ⟨0, 0, by omega, by omega, ?_, ?_, ?_, ?_, by omega, by omega⟩, ⟨8, by omega, by omega, ?_, ?_⟩, ⟨10, 1, by omega, by omega, ?_, ?_, ?_, ?_⟩⟩, fun _ => ?_, ⟨⟨?_, ?_, by omega⟩, fun t ht => absurd ht (by omega), fun t _ t4 i hi => ?_⟩⟩, fun Q j y1 y2 y3 => ?_, fun Q j y1 y2 => ?_, fun Q j y1 y2 => ?_, ?_, ?_⟩
  · exact hC.eq (fun Q j y => t2.2 _ _ (fun z => by unfold sTC at z; omega)) (by rw [t2.1])
  · exact hM.eq (fun Q j y => t _ _ (by omega))
  · rw [t2.1]; exact r21
  · exact (t _ _ (by omega)).trans m25
  · exact (c _ _ (by omega)).trans c24
  · exact (t _ _ (by omega)).trans m33
  · exact (c _ _ (by omega)).trans c22
  · exact (c _ _ (by omega)).trans c23
  · exact (t _ _ (by omega)).trans m26
  · exact (cq _ _ (by omega) (by omega)).trans v6
  · exact (t _ _ (by omega)).trans m476
  · exact (cq _ _ (by omega) (by omega)).trans v8
  · exact (t _ _ (by omega)).trans m478
  · exact (cq _ _ (by omega) (by omega)).trans v9
  · exact (t _ _ (by omega)).trans m479
  · exact (c _ _ (by omega)).trans c26
  · exact (cq _ _ (by omega) (by omega)).trans v0
  · exact (t _ _ (by omega)).trans m470
  · exact (cq _ _ (by omega) (by omega)).trans v1
  · exact (t _ _ (by omega)).trans m471
  · exact (cq _ _ (by omega) (by omega)).trans v2
  · exact (t _ _ (by omega)).trans m472
  · exact (cq _ _ (by omega) (by omega)).trans v3
  · exact (t _ _ (by omega)).trans m473
  · exact (cq _ _ (by omega) (by omega)).trans v4
  · exact (t _ _ (by omega)).trans m474
  · exact (cq _ _ (by omega) (by omega)).trans v5
  · exact (t _ _ (by omega)).trans m475
  · exact (t _ _ (by omega)).trans m472
  · exact (cq _ _ (by omega) (by omega)).trans v7
  · exact (t _ _ (by omega)).trans m477
  · exact (cq _ _ (by omega) (by omega)).trans (k2 _ (by omega))
  · exact (c _ _ y2).trans (cO _ _ y1 y2 y3)
  · rw [t2.1]; exact rO _ _ y1 y2
  · rw [t _ _ (by omega), ← hm]
    exact bg_at y1 y2
  · rw [t3.1, ← hm]
    rfl
  · exact (t _ _ (by omega)).trans m18
end IS
