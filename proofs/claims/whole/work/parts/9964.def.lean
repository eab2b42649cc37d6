/-! the line of a function -/
section IS
variable {N nb q b : Nat} {tx : Nat → Nat} {σ σ1 σ2 τ τ1 τ2 : zS} {K K1 : aK} {H H1 : Nat → Nat}
theorem wfI.old {L L1 F F1 i : Nat} (h : wfI K L F H i) (k1 : K1.1 i = K.1 i) (k2 : K1.2.1 i = K.2.1 i) (k3 : ∀ f, f < F → K1.2.2.2 f = K.2.2.2 f) (hH : ∀ j, j < L → H1 j = H j) (hi : i < L) (hL : L ≤ L1) (hF : F ≤ F1) : wfI K1 L1 F1 H1 i := by
  unfold wfI at h ⊢
  rw [k1, k2]
  have hi0 := hH i hi
  split at h
  · rw [hi0, hH _ h.1]; exact ⟨by omega, h.2⟩
  · rw [hi0, hH _ h.1.1]; exact ⟨⟨by omega, h.1.2⟩, h.2⟩
  · rw [hi0, hH _ h.1]; exact ⟨by omega, h.2⟩
  · rw [hi0, hH _ h.1]; exact ⟨by omega, h.2⟩
  · rw [hi0, hH _ h.1]; exact ⟨by omega, h.2⟩
  · rw [hi0, hH _ h.1]; exact ⟨by omega, h.2⟩
  · rw [hi0, hH _ h.1]; exact ⟨by omega, h.2⟩
  · rw [hi0, hH _ h.1]; exact ⟨by omega, h.2⟩
  · obtain ⟨g1, f, g2, g3, g4, g5⟩ := h
    rw [hi0, hH _ g1]; exact ⟨by omega, f, by omega, g3, by rw [k3 f g2]; exact g4, by rw [k3 f g2]; exact g5⟩
  · obtain ⟨g1, p, g2, g3, g4, g5⟩ := h
    rw [hi0, hH _ g1.1]; exact ⟨⟨by omega, g1.2⟩, p, g2, by omega, g4, by rw [hH p g3]; exact g5⟩
  · obtain ⟨g1, p, g2, g3, g4, g5⟩ := h
    rw [hi0, hH _ g1.1]; exact ⟨⟨by omega, g1.2⟩, p, g2, by omega, g4, by rw [hH p g3]; exact g5⟩
  · obtain ⟨g1, p, g2, g3, g4, g5⟩ := h
    rw [hi0, hH _ g1.1]; exact ⟨⟨by omega, g1.2⟩, p, g2, by omega, g4, by rw [hH p g3]; exact g5⟩
  · obtain ⟨p, g2, g3, g4, g5⟩ := h
    rw [hi0]; exact ⟨p, g2, by omega, g4, by rw [hH p g3]; exact g5⟩
  · rw [hi0]; exact h
  · exact h
/-- what is known of the functions told so far -/
def LFn (nb q b nf : Nat) (fa fl : Nat → Nat) (K : aK) (H : Nat → Nat) (L u : Nat) (σ τ : zS) : Prop := NmF nb nf fa fl σ τ ∧ (σ.1 q 6 = nI nf ∧ τ.1 476 b = nI nf) ∧ (σ.1 q 8 = nI u ∧ τ.1 478 b = nI u ∧ u ≤ 80) ∧ CKc σ q K L ∧ MKc τ b K L ∧ L ≤ 4 * u ∧ (∀ f, f < nf → K.2.2.1 f < L ∧ H (K.2.2.1 f) = 0 ∧ K.2.2.2 f ≤ 4 ∧ σ.1 (q + 1) f = nI (K.2.2.1 f) ∧ τ.1 480 (6 * b + f) = nI (K.2.2.1 f) ∧ σ.1 (q + 2) f = nI (K.2.2.2 f) ∧ τ.1 481 (6 * b + f) = nI (K.2.2.2 f)) ∧ (∀ i, i < L → H i ≤ 28 ∧ wfI K L nf H i)
def neK (K : aK) (nf L np : Nat) : aK := (K.1, K.2.1, fun f => if f = nf then L else K.2.2.1 f, fun f => if f = nf then np else K.2.2.2 f)
/-- the functions with one more, its code behind the others', RETURN at its end -/
theorem code_new {nf L L1 np : Nat} (h1 : ∀ i, i < L → H i ≤ 28 ∧ wfI K L nf H i) (h2 : ∀ f, f < nf → K.2.2.1 f < L ∧ H (K.2.2.1 f) = 0 ∧ K.2.2.2 f ≤ 4) (np4 : np ≤ 4) (ts : TS (neK K nf L np) (seH H L 0) L K1 H1 L1 (nf + 1)) (hH : H1 L1 = 1) : (∀ i, i < L1 + 1 → H1 i ≤ 28 ∧ wfI (seK K1 L1 13 0) (L1 + 1) (nf + 1) H1 i) ∧ (∀ f, f < nf + 1 → (seK K1 L1 13 0).2.2.1 f < L1 + 1 ∧ H1 ((seK K1 L1 13 0).2.2.1 f) = 0 ∧ (seK K1 L1 13 0).2.2.2 f ≤ 4 ∧ (seK K1 L1 13 0).2.2.1 f = (if f = nf then L else K.2.2.1 f) ∧ (seK K1 L1 13 0).2.2.2 f = (if f = nf then np else K.2.2.2 f)) := by
  have lL := ts.2.2.1
  have e22 : K1.2.2 = (neK K nf L np).2.2 := ts.1.2
  have hL0 : H1 L = 0 := (ts.2.1 L (Nat.le_refl _)).trans seH_o
  have ho : ∀ j, j < L → H1 j = H j := fun j hj => (ts.2.1 j (by omega)).trans (seH_n (by omega))
  have ea : ∀ f, (seK K1 L1 13 0).2.2.1 f = (if f = nf then L else K.2.2.1 f) := fun f => by
    show K1.2.2.1 f = _
    rw [e22]
    rfl
  have eb : ∀ f, (seK K1 L1 13 0).2.2.2 f = (if f = nf then np else K.2.2.2 f) := fun f => by
    show K1.2.2.2 f = _
    rw [e22]
    rfl
  refine ⟨fun i hi => ?_, fun f hf => ?_⟩
  · by_cases c1 : i < L
    · obtain ⟨g1, g2⟩ := h1 i c1
      have ag := ts.1.1 i c1
      have s1 : (seK K1 L1 13 0).1 i = K1.1 i := if_neg (by omega)
      have s2 : (seK K1 L1 13 0).2.1 i = K1.2.1 i := if_neg (by omega)
      exact ⟨by rw [ho i c1]; exact g1, g2.old (s1.trans ag.1) (s2.trans ag.2) (fun f hf => by rw [eb, if_neg (by omega)]) ho c1 (by omega) (by omega)⟩
    · by_cases c2 : i < L1
      · obtain ⟨g1, g2⟩ := ts.2.2.2 i (by omega) c2
        exact ⟨g1, g2.upi (if_neg (by omega)) (if_neg (by omega)) rfl (fun _ _ => rfl) c2 (Nat.le_refl _)⟩
      · obtain rfl : i = L1 := by omega
        refine ⟨by omega, ?_⟩
        unfold wfI
        rw [seK_o.1]
        exact hH
  · rw [ea, eb]
    by_cases c : f = nf
    · rw [if_pos c, if_pos c]
      exact ⟨by omega, hL0, np4, rfl, rfl⟩
    · rw [if_neg c, if_neg c]
      obtain ⟨g1, g2, g3⟩ := h2 f (by omega)
      exact ⟨by omega, by rw [ho _ g1]; exact g2, g3, rfl, rfl⟩
def sDc (q Q j : Nat) : Prop := (Q = 3 ∧ 2 ≤ j ∧ j ≤ 5) ∨ (Q = 2 ∧ 2 ≤ j ∧ j ≤ 7) ∨ (12 ≤ Q ∧ Q ≤ 15) ∨ (Q = q ∧ (j = 6 ∨ j = 8 ∨ j = 9)) ∨ Q = q + 1 ∨ Q = q + 2 ∨ Q = q + 5 ∨ Q = q + 6
def sDm (b Q j : Nat) : Prop := (Q = 468 ∧ ((20 ≤ j ∧ j ≤ 26) ∨ j = 32 ∨ (37 ≤ j ∧ j ≤ 39))) ∨ (Q = 476 ∧ j = b) ∨ (Q = 478 ∧ j = b) ∨ sLa b Q j ∨ ((Q = 480 ∨ Q = 481) ∧ 6 * b ≤ j ∧ j < 6 * b + 6) ∨ (487 ≤ Q ∧ Q ≤ 491)
def DLR (nb : Nat) (tx : Nat → Nat) (q b m e nf : Nat) (r : Int32 × zS) (σ τ τ1 : zS) : Prop := (r.1 = 0 ∧ FT r.2 τ1 ∧ rfr (sDc q) σ r.2 ∧ rfr (sDm b) τ τ1) ∨ (r.1 = 1 ∧ rfr (sDc q) σ r.2 ∧ rfr (sDm b) τ τ1 ∧ r.2.1 2 6 = -1 ∧ (∃ nf1 fa fl K H L u, nf ≤ nf1 ∧ LFn nb q b nf1 fa fl K H L u r.2 τ1) ∧ ∃ s1 e1 kd1 v1 w1, LNb nb tx q b m s1 e1 kd1 v1 w1 r.2 τ1 ∧ e ≤ s1)
theorem no_em {Q j : Nat} (q3 : q = 16 ∨ q = 23) (h : Q = 12 ∨ Q = 13 ∨ Q = q + 1 ∨ Q = q + 2) : ¬ sEm q Q j := fun z => by unfold sEm at z; omega
theorem no_rc {Q j : Nat} (q3 : q = 16 ∨ q = 23) (h : Q = 12 ∨ Q = 13 ∨ Q = q + 1 ∨ Q = q + 2) : ¬ sRC q Q j := fun z => by unfold sRC at z; omega
/-- from the = on -/
theorem df_tail {m s e kd v w nf np L u : Nat} {fa fl pa pl : Nat → Nat} (h : LNb nb tx q b m s e kd v w σ τ) (nf6 : nf < 6) (np4 : np ≤ 4) (hF : NmF nb (nf + 1) fa fl σ τ) (hP : NmP nb np pa pl σ τ) (h7 : σ.1 2 7 = nI np) (h32 : τ.1 468 32 = nI np) (h6 : σ.1 q 6 = nI (nf + 1)) (h76 : τ.1 476 b = nI nf) (hu : σ.1 q 8 = nI u ∧ τ.1 478 b = nI u ∧ u ≤ 80) (hC : CKc σ q K L) (hM : MKc τ b K L) (hLu : L ≤ 4 * u) (hent : σ.1 (q + 1) nf = nI L) (hfn : ∀ f, f < nf → K.2.2.1 f < L ∧ H (K.2.2.1 f) = 0 ∧ K.2.2.2 f ≤ 4 ∧ σ.1 (q + 1) f = nI (K.2.2.1 f) ∧ τ.1 480 (6 * b + f) = nI (K.2.2.1 f) ∧ σ.1 (q + 2) f = nI (K.2.2.2 f) ∧ τ.1 481 (6 * b + f) = nI (K.2.2.2 f)) (hwf : ∀ i, i < L → H i ≤ 28 ∧ wfI K L nf H i) (h26 : σ.1 2 6 = -1) (hN : 200000 < N) (A : Int32 × zS) (hA : r_X3_readSign 61 N (zuI σ (q + 2) nf (nI np)) = A) (B : Int32 × zS) (hB : r_X3_rd 0 N A.2 = B) : (p_X9_need 61 N τ ∧ vp_in ((6 * nI b) + nI nf) 12 ∧ vp_in (nI b) 2 ∧ p_X9_readBody (nI b) N (u_X9_readDef_h2_4 N (nI b) (nI nf) τ) ∧ p_X9_lay (nI b) 13 0 (u_X9_readDef_h2_5 N (nI b) (nI nf) τ)) ∧ p_X9_need 59 N (u_X9_readDef_h2_6 N (nI b) (nI nf) τ) ∧ p_X3_readSign 61 N (zuI σ (q + 2) nf (nI np)) ∧ (¬ A.1 = 0 → p_X3_rd 0 N A.2 ∧ (¬ B.1 = 0 → B.2.2 2 1 = q + 1 ∧ p_X2_emit q 13 0 B.2 ∧ p_X3_readSign 59 N (r_X2_emit q 13 0 B.2).2)) ∧ DLR nb tx q b m s nf (if A.1 = 0 then (0, A.2) else (if B.1 = 0 then (0, B.2) else r_X3_readSign 59 N (r_X2_emit q 13 0 B.2).2)) σ τ (s_X9_need 59 N (u_X9_readDef_h2_6 N (nI b) (nI nf) τ)) := by
  have n10 : ¬ (1 : Int32) = 0 := by decide
  have b2 := h.2.2.1.2.2
  have q3 := h.2.2.1.2.1
  have cb : (nI b).toNatClampNeg = b := nI_clamp (by omega)
  have vb : vp_in (nI b) 2 := vp_in_nI b2 (by decide)
  have e6 : (6 : Int32) * nI b + nI nf = nI (6 * b + nf) := by rw [show (6 : Int32) = nI 6 from rfl, pk_mul, nI_add]
  have v6 : vp_in (nI (6 * b + nf)) 12 := vp_in_nI (by omega) (by decide)
  have c6 : (nI (6 * b + nf)).toNatClampNeg = 6 * b + nf := nI_clamp (by omega)
  have h1 : LNb nb tx q b m s e kd v w (zuI σ (q + 2) nf (nI np)) τ := h.eq (fun Q j y => gI_n (by omega)) rfl (fun _ _ _ => rfl)
  obtain ⟨w1, w2, w3⟩ := st_sign (Z := fun _ => False) (c := 61) h1 (by decide) hN
  have zz := (ln_sign (N := N) (c := 61) h1.1 h1.2.1 h1.2.2.2.1 h1.2.2.2.2.1 (by decide) hN).2.2
  have w1 : p_X3_readSign 61 N (zuI σ (q + 2) nf (nI np)) := w1
  have w2 : p_X9_need 61 N τ := w2
  have hA' : r_X3_readSign (nI 61) N (zuI σ (q + 2) nf (nI np)) = A := hA
  rw [hA'] at w3 zz
  generalize hT6 : s_X9_need 61 N τ = τ6
  have hT6' : s_X9_need (nI 61) N τ = τ6 := hT6
  rw [hT6'] at w3 zz
  -- what the need leaves
  have o6 : ∀ Q j, ¬ (Q = 468 ∧ 20 ≤ j ∧ j ≤ 26) → τ6.1 Q j = τ.1 Q j := fun Q j y => by
    rcases zz with ⟨-, -, g⟩ | ⟨-, -, g1, _, _, _, _, _, -, -, g2, -⟩
    · unfold FLm at g
      rw [g, gI_n (by omega), gI_n (by omega)]
    · rw [g1, g2.2 _ _ (fun z => by unfold sTM at z; omega)]
  have t6r : τ6.2 = τ.2 := by
    rcases zz with ⟨-, -, g⟩ | ⟨-, -, g1, _, _, _, _, _, -, -, g2, -⟩
    · unfold FLm at g
      rw [g]
      rfl
    · rw [g1]; exact g2.1
  generalize hT7 : zuI (zuI (zuI τ6 481 (6 * b + nf) (nI np)) 480 (6 * b + nf) (nI L)) 476 b (nI (nf + 1)) = τ7
  have eT7 : u_X9_readDef_h2_4 N (nI b) (nI nf) τ = τ7 := by
    unfold u_X9_readDef_h2_4 u_X9_readDef_h2_3 u_X9_readDef_h2_2 u_X9_readDef_h2_1
    rw [hT6, e6, c6, cb, o6 468 32 (by omega), h32, gI_n (by omega), o6 479 b (by omega), hM.2, gI_n (by omega), gI_n (by omega), o6 476 b (by omega), h76, nI_1, hT7]
  have o7 : ∀ Q j, ¬ (((Q = 480 ∨ Q = 481) ∧ j = 6 * b + nf) ∨ (Q = 476 ∧ j = b)) → τ7.1 Q j = τ6.1 Q j := fun Q j y => by rw [← hT7, gI_n (by omega), gI_n (by omega), gI_n (by omega)]
  have o77 : ∀ Q j, ¬ ((Q = 468 ∧ 20 ≤ j ∧ j ≤ 26) ∨ ((Q = 480 ∨ Q = 481) ∧ j = 6 * b + nf) ∨ (Q = 476 ∧ j = b)) → τ7.1 Q j = τ.1 Q j := fun Q j y => by rw [o7 _ _ (by omega), o6 _ _ (by omega)]
  have f7 : rfr (sDm b) τ τ7 := ⟨by rw [← hT7]; exact t6r, fun Q j y => o77 Q j (fun z => y (by unfold sDm; omega))⟩
  have fq2 : rfr (sDc q) σ (zuI σ (q + 2) nf (nI np)) := rfr.rf.uI (by unfold sDc; omega)
  have e25 : u_X9_readDef_h2_5 N (nI b) (nI nf) τ = s_X9_readBody (nI b) N τ7 := by
    unfold u_X9_readDef_h2_5
    rw [eT7]
  have e26 : u_X9_readDef_h2_6 N (nI b) (nI nf) τ = s_X9_lay (nI b) 13 0 (s_X9_readBody (nI b) N τ7) := by
    unfold u_X9_readDef_h2_6
    rw [e25]
  rw [e26, e25, eT7, e6]
  have hM7 : MKc τ7 b K L := hM.eq (fun Q j y => o77 _ _ (by omega))
  -- a fault found, RETURN laid all the same
  have lay_bad : ∀ (g : Int32 × zS) (τ8 : zS) (LR : Nat), FT g.2 τ8 → τ8.1 479 b = nI LR → LR ≤ 399 → p_X9_lay (nI b) 13 0 τ8 ∧ p_X9_need 59 N (s_X9_lay (nI b) 13 0 τ8) ∧ s_X9_need 59 N (s_X9_lay (nI b) 13 0 τ8) = s_X9_lay (nI b) 13 0 τ8 ∧ FT g.2 (s_X9_lay (nI b) 13 0 τ8) ∧ rfr (sDm b) τ8 (s_X9_lay (nI b) 13 0 τ8) := fun g τ8 LR hf h9 hLR => by
    have ei : (800 : Int32) * nI b + 2 * nI LR = nI (800 * b + 2 * LR) := by
      rw [show (800 : Int32) = nI 800 from rfl, show (2 : Int32) = nI 2 from rfl, pk_mul, pk_mul, nI_add]
    have e1 : u_X9_lay_1 (nI b) 13 0 τ8 = zuI τ8 484 (800 * b + 2 * LR) 13 := by
      unfold u_X9_lay_1
      rw [cb, h9, ei, nI_clamp (by omega)]
    have e2 : u_X9_lay_2 (nI b) 13 0 τ8 = zuI (zuI τ8 484 (800 * b + 2 * LR) 13) 484 (800 * b + 2 * LR + 1) 0 := by
      unfold u_X9_lay_2
      rw [e1, cb, gI_n (by omega), h9, ei, nI_1, nI_clamp (by omega)]
    have e3 : s_X9_lay (nI b) 13 0 τ8 = zuI (zuI (zuI τ8 484 (800 * b + 2 * LR) 13) 484 (800 * b + 2 * LR + 1) 0) 479 b (nI (LR + 1)) := by
      unfold s_X9_lay u_X9_lay_3
      rw [e2, cb, gI_n (by omega), gI_n (by omega), h9, nI_1]
    have pl : p_X9_lay (nI b) 13 0 τ8 := by
      refine ⟨vb, ?_, ?_⟩
      · rw [cb, h9, ei]
        exact vp_in_nI (by omega) (by decide)
      · rw [e1, cb, gI_n (by omega), h9, ei, nI_1]
        exact vp_in_nI (by omega) (by decide)
    have ft : FT g.2 (s_X9_lay (nI b) 13 0 τ8) := by
      rw [e3]
      exact ((hf.set (by omega)).set (by omega)).set (by omega)
    obtain ⟨c, p, c1, c2, c3, c4, c5, c6', c7⟩ := ft
    obtain ⟨d1, d2⟩ := rf_need_bad (N := N) (x := 59) c1 c2 c6'
    refine ⟨pl, d1, d2, ⟨c, p, c1, c2, c3, c4, c5, c6', c7⟩, ?_⟩
    rw [e3]
    exact ((rfr.rf.uI (by unfold sDm sLa; omega)).uI (by unfold sDm sLa; omega)).uI (by unfold sDm sLa; omega)
  rcases w3 with ⟨x1, x2, x3, x4⟩ | ⟨x1, x3, x4, s1, e1, kd1, v1, w1', g1, g1e⟩
  · -- no =
    obtain ⟨c, p, c1, c2, c3, c4, c5, c6', c7⟩ := x2
    have n0 : ¬ τ7.1 468 25 = 0 := by
      rw [o7 _ _ (by omega), c6']
      exact nI_ne0 (by omega) (by omega)
    generalize hτ0 : zuI (zuI (zuI τ7 468 37 0) 468 38 0) 468 39 0 = τ0
    have o0 : ∀ Q j, ¬ (Q = 468 ∧ 37 ≤ j ∧ j ≤ 39) → τ0.1 Q j = τ7.1 Q j := fun Q j y => by rw [← hτ0, gI_n (by omega), gI_n (by omega), gI_n (by omega)]
    have e0 : u_X9_readBody_3 (nI b) N τ7 = τ0 := hτ0
    obtain ⟨z, hz⟩ : ∃ z, N = z + 1 := ⟨N - 1, by omega⟩
    obtain ⟨st1, st2⟩ := rn_stop (N := N) (b := b) (z := z) (τ := τ0) (Or.inl (by rw [o0 _ _ (by omega)]; exact n0))
    rw [← hz] at st1 st2
    have eS : s_X9_readBody (nI b) N τ7 = τ0 := by
      unfold s_X9_readBody
      rw [e0, st1]
    have ft0 : FT A.2 τ0 := ⟨c, p, c1, c2, c3, c4, c5, by rw [o0 _ _ (by omega), o7 _ _ (by omega)]; exact c6', by rw [o0 _ _ (by omega), o7 _ _ (by omega)]; exact c7⟩
    rw [eS]
    obtain ⟨l1, l2, l3, l4, l5⟩ := lay_bad A τ0 L ft0 (by rw [o0 _ _ (by omega)]; exact hM7.2) (by omega)
    refine ⟨⟨w2, v6, vb, ?_, l1⟩, l2, w1, fun y => absurd x1 y, ?_⟩
    · unfold p_X9_readBody
      rw [e0]
      exact st2
    · rw [if_pos x1, l3]
      exact Or.inl ⟨rfl, l4, fq2.tr (x3.wk (fun Q j y => y.elim Or.inl (fun y => y.elim (fun y => Or.inr (Or.inl ⟨y.1, by omega, by omega⟩)) (fun y => absurd y.2.2 (fun z => z))))), (f7.tr ⟨by rw [← hτ0]; rfl, fun Q j y => o0 Q j (fun z => y (by unfold sDm; omega))⟩).tr l5⟩
  · have x1n : ¬ A.1 = 0 := by rw [x1]; exact n10
    have x3 : rfr sTC (zuI σ (q + 2) nf (nI np)) A.2 := x3
    have x4 : rfr sTM τ τ6 := x4
    have cA : ∀ Q j, ¬ Q = 3 → ¬ (Q = q + 2 ∧ j = nf) → A.2.1 Q j = σ.1 Q j := fun Q j y1 y2 => by rw [x3.2 _ _ (fun z => y1 z.1), gI_n y2]
    have cA2 : A.2.1 (q + 2) nf = nI np := by rw [x3.2 _ _ (fun z => by unfold sTC at z; omega)]; exact gI_h rfl rfl
    have f7' : rfr (sDm b) τ τ7 := f7
    have hE : EN (nb, tx, q, b, nf + 1, fa, fl, np, pa, pl, (neK K nf L np).2.2.2) A.2 τ7 := by
      refine ⟨g1.1, g1.2.1.eq (fun Q j y => o7 _ _ (by omega)), ⟨hF.1, fun i hi => ?_⟩, ⟨hP.1, fun i hi => ?_⟩, g1.2.2.1, ⟨?_, ?_⟩, ⟨?_, ?_⟩, fun f hf => ?_⟩
      · obtain ⟨y0, y1, y2, y3, y4⟩ := hF.2 i hi
        exact ⟨y0, by rw [cA _ _ (by omega) (by omega)]; exact y1, by rw [cA _ _ (by omega) (by omega)]; exact y2, by rw [o77 _ _ (by omega)]; exact y3, by rw [o77 _ _ (by omega)]; exact y4⟩
      · obtain ⟨y0, y1, y2, y3, y4⟩ := hP.2 i hi
        exact ⟨y0, by rw [cA _ _ (by omega) (by omega)]; exact y1, by rw [cA _ _ (by omega) (by omega)]; exact y2, by rw [o77 _ _ (by omega)]; exact y3, by rw [o77 _ _ (by omega)]; exact y4⟩
      · show A.2.1 q 6 = nI (nf + 1)
        rw [cA _ _ (by omega) (by omega)]; exact h6
      · show τ7.1 476 b = nI (nf + 1)
        rw [← hT7]; exact gI_h rfl rfl
      · show A.2.1 2 7 = nI np
        rw [cA _ _ (by omega) (by omega)]; exact h7
      · show τ7.1 468 32 = nI np
        rw [o77 _ _ (by omega)]; exact h32
      · show (if f = nf then np else K.2.2.2 f) ≤ 4 ∧ A.2.1 (q + 2) f = nI (if f = nf then np else K.2.2.2 f) ∧ τ7.1 481 (6 * b + f) = nI (if f = nf then np else K.2.2.2 f)
        have hf : f < nf + 1 := hf
        by_cases c : f = nf
        · rw [if_pos c, c]
          refine ⟨np4, cA2, ?_⟩
          rw [← hT7, gI_n (by omega), gI_n (by omega)]; exact gI_h rfl rfl
        · rw [if_neg c]
          obtain ⟨-, -, y3, -, -, y6, y7⟩ := hfn f (by omega)
          exact ⟨y3, by rw [cA _ _ (by omega) (by omega)]; exact y6, by rw [o77 _ _ (by omega)]; exact y7⟩
    have hTK : TKs tx nb s1 e1 kd1 v1 w1' A.2 τ7 := g1.2.2.2.1.eq (fun _ _ _ => rfl) (fun j _ _ => o7 _ _ (by omega))
    obtain ⟨y1, y2, y3⟩ := body_sim (E := (nb, tx, q, b, nf + 1, fa, fl, np, pa, pl, (neK K nf L np).2.2.2)) (K := neK K nf L np) (H := seH H L 0) (L := L) (u := u) hE hTK ⟨by show A.2.1 q 8 = nI u; rw [cA _ _ (by omega) (by omega)]; exact hu.1, by show τ7.1 478 b = nI u; rw [o77 _ _ (by omega)]; exact hu.2.1, hu.2.2⟩ (show CKc A.2 q K L from hC.eq (fun Q j y => cA _ _ (by omega) (by omega))) (show MKc τ7 b K L from hM7) hLu (by rw [o7 _ _ (by omega)]; exact g1.2.2.2.2.1) (by rw [cA _ _ (by omega) (by omega)]; exact h26) seH_o (fun f hf => rfl) hN
    rw [hB] at y3
    have y2 : p_X9_readBody (nI b) N τ7 := y2
    have fA : rfr (sDc q) σ A.2 := fq2.tr (x3.wk (fun Q j y => Or.inl y))
    have wC : ∀ {ρ ρ1 : zS}, rfr (sRD q) ρ ρ1 → rfr (sDc q) ρ ρ1 := fun g => g.wk (fun Q j y => by unfold sRD sRC at y; unfold sDc; omega)
    have wM : ∀ {ρ ρ1 : zS}, rfr (sRN b) ρ ρ1 → rfr (sDm b) ρ ρ1 := fun g => g.wk (fun Q j y => by
      rcases y with y | y
      · rcases y with y | y | y | y
        · exact Or.inl ⟨y.1, by omega⟩
        · exact Or.inr (Or.inr (Or.inl y))
        · exact Or.inr (Or.inr (Or.inr (Or.inl y)))
        · exact Or.inr (Or.inr (Or.inr (Or.inr (Or.inr ⟨by have := y.1; omega, y.2⟩))))
      · exact Or.inl ⟨y.1, by omega⟩)
    rw [if_neg x1n]
    rcases y3 with ⟨z0, ⟨z1, LR, z2, z3⟩, z4, z5⟩ | ⟨z0, s2, e2, kd2, v2, w2', u1, K1, H1, L1, z1, z2, ⟨z31, z32, z33⟩, z4, z5, z6, z7, z8, z9, ⟨a1, a2⟩, a3, a4, a5⟩
    · have z1 : FT B.2 (s_X9_readBody (nI b) N τ7) := z1
      have z4 : rfr (sRD q) A.2 B.2 := z4
      have z5 : rfr (sRN b) τ7 (s_X9_readBody (nI b) N τ7) := z5
      obtain ⟨l1, l2, l3, l4, l5⟩ := lay_bad B _ LR z1 z2 z3
      rw [if_pos z0, l3]
      exact ⟨⟨w2, v6, vb, y2, l1⟩, l2, w1, fun _ => ⟨y1, fun z => absurd z0 z⟩, Or.inl ⟨rfl, l4, fA.tr (wC z4), (f7.tr (wM z5)).tr l5⟩⟩
    · have z0n : ¬ B.1 = 0 := by rw [z0]; exact n10
      have z1 : TKs tx nb s2 e2 kd2 v2 w2' B.2 (s_X9_readBody (nI b) N τ7) := z1
      have z31 : B.2.1 q 8 = nI u1 := z31
      have z32 : (s_X9_readBody (nI b) N τ7).1 478 b = nI u1 := z32
      have z4 : CKc B.2 q K1 L1 := z4
      have z5 : MKc (s_X9_readBody (nI b) N τ7) b K1 L1 := z5
      have z6 : (s_X9_readBody (nI b) N τ7).1 468 25 = 0 := z6
      have z8 : TS (neK K nf L np) (seH H L 0) L K1 H1 L1 (nf + 1) := z8
      have a4 : rfr (sRC q) A.2 B.2 := a4
      have a5 : rfr (sRM b) τ7 (s_X9_readBody (nI b) N τ7) := a5
      have zq : B.2.2 2 1 = q + 1 := z2.2.2.2.2.1.1
      generalize hτ8 : s_X9_readBody (nI b) N τ7 = τ8 at *
      obtain ⟨m1, m2, m3, m4⟩ := cl_emit (x := 13) (y := 0) (z4.ag (seK_ag (o := 13) (x := 0))) (by omega) (by rw [seK_o.1]; rfl) seK_o.2.symm
      obtain ⟨l1, l2, l3⟩ := rf_lay (x := 13) (y := 0) (z5.ag (seK_ag (o := 13) (x := 0)) (Nat.le_refl _)) b2 (by omega) (by rw [seK_o.1]; rfl) seK_o.2.symm
      generalize hσ9 : (r_X2_emit q 13 0 B.2).2 = σ9 at *
      generalize hτ9 : s_X9_lay (nI b) 13 0 τ8 = τ9 at *
      have c9 : ∀ Q j, ¬ sEm q Q j → σ9.1 Q j = B.2.1 Q j := m4.2
      have t9 : ∀ Q j, ¬ sLa b Q j → τ9.1 Q j = τ8.1 Q j := l3.2
      have cB : ∀ Q j, ¬ sRC q Q j → B.2.1 Q j = A.2.1 Q j := a4.2
      have tB : ∀ Q j, ¬ sRM b Q j → τ8.1 Q j = τ7.1 Q j := a5.2
      have h9 : LNb nb tx q b m s2 e2 kd2 v2 w2' σ9 τ9 := by
        obtain ⟨b1, b2', ⟨b3, b4, b5⟩, b6, b7, ⟨b8, b9, b10⟩, b11, b12, b13⟩ := g1
        refine ⟨b1.eq (fun Q j y => by rw [c9 _ _ (fun z => by unfold sEm at z; omega), cB _ _ (fun z => by unfold sRC at z; omega)]) (by rw [m4.1, a4.1]), b2'.eq (fun Q j y => by rw [t9 _ _ (fun z => by unfold sLa at z; omega), tB _ _ (fun z => by unfold sRM sLa at z; omega), o7 _ _ (by omega)]), ⟨by rw [m4.1, a4.1]; exact b3, b4, b5⟩, z1.eq (fun j _ _ => c9 _ _ (fun z => by unfold sEm at z; omega)) (fun j _ _ => t9 _ _ (fun z => by unfold sLa at z; omega)), ?_, ⟨?_, ?_, b10⟩, ?_, ?_, ?_⟩
        · rw [t9 _ _ (fun z => by unfold sLa at z; omega)]; exact z6
        · rw [c9 _ _ (fun z => by unfold sEm at z; omega), cB _ _ (fun z => by unfold sRC at z; omega)]; exact b8
        · rw [t9 _ _ (fun z => by unfold sLa at z; omega), tB _ _ (fun z => by unfold sRM sLa at z; omega), o7 _ _ (by omega)]; exact b9
        · rw [c9 _ _ (fun z => by unfold sEm at z; omega), cB _ _ (fun z => by unfold sRC at z; omega)]; exact b11
        · rw [c9 _ _ (fun z => by unfold sEm at z; omega), cB _ _ (fun z => by unfold sRC at z; omega)]; exact b12
        · rw [t9 _ _ (fun z => by unfold sLa at z; omega), tB _ _ (fun z => by unfold sRM sLa at z; omega), o7 _ _ (by omega)]; exact b13
      obtain ⟨q1, q2, q3'⟩ := st_sign (Z := fun _ => False) (c := 59) h9 (by decide) hN
      have q1 : p_X3_readSign 59 N σ9 := q1
      have q2 : p_X9_need 59 N τ9 := q2
      have f9 : rfr (sDc q) σ σ9 := (fA.tr (wC a4.dd)).tr (m4.wk (fun Q j y => by unfold sEm at y; unfold sDc; omega))
      have g9 : rfr (sDm b) τ τ9 := (f7.tr (wM a5.nn)).tr (l3.wk (fun Q j y => Or.inr (Or.inr (Or.inr (Or.inl y)))))
      rw [if_neg z0n]
      refine ⟨⟨w2, v6, vb, y2, l1⟩, q2, w1, fun _ => ⟨y1, fun _ => ⟨zq, m1, q1⟩⟩, ?_⟩
      rcases q3' with ⟨t1, t2, t3, t4⟩ | ⟨t1, t3, t4, s3, e3, kd3, v3, w3', k1, k2⟩
      · refine Or.inl ⟨t1, t2, f9.tr (t3.wk (fun Q j y => y.elim Or.inl (fun y => y.elim (fun y => Or.inr (Or.inl ⟨y.1, by omega, by omega⟩)) (fun y => absurd y.2.2 (fun z => z))))), g9.tr ?_⟩
        have zs := (ln_sign (N := N) (c := 59) h9.1 h9.2.1 h9.2.2.2.1 h9.2.2.2.2.1 (by decide) hN).2.2
        rcases zs with ⟨-, -, y⟩ | ⟨-, y, -⟩
        · unfold FLm at y
          have y : s_X9_need 59 N τ9 = _ := y
          rw [y]
          exact (rfr.rf.uI (Or.inl ⟨rfl, by omega⟩)).uI (Or.inl ⟨rfl, by omega⟩)
        · rw [y] at t1
          exact absurd (show (1 : Int32) = 0 from t1) n10
      · have t3 : rfr sTC σ9 (r_X3_readSign 59 N σ9).2 := t3
        have t4 : rfr sTM τ9 (s_X9_need 59 N τ9) := t4
        obtain ⟨n1, n2⟩ := code_new (np := np) hwf (fun f hf => ⟨(hfn f hf).1, (hfn f hf).2.1, (hfn f hf).2.2.1⟩) np4 z8 z9
        have cR : ∀ Q j, ¬ Q = 3 → ¬ sEm q Q j → ¬ sRC q Q j → ¬ (Q = q + 2 ∧ j = nf) → (r_X3_readSign 59 N σ9).2.1 Q j = σ.1 Q j := fun Q j y1 y2 y3 y4 => by rw [t3.2 _ _ (fun z => y1 z.1), c9 _ _ y2, cB _ _ y3, cA _ _ y1 y4]
        have tR : ∀ Q j, ¬ (Q = 468) → ¬ sRM b Q j → (s_X9_need 59 N τ9).1 Q j = τ7.1 Q j := fun Q j y1 y2 => by rw [t4.2 _ _ (fun z => y1 z.1), t9 _ _ (fun z => y2 (Or.inr (Or.inr (Or.inl z)))), tB _ _ y2]
        refine Or.inr ⟨t1, f9.tr (t3.wk (fun Q j y => Or.inl y)), g9.tr (t4.wk (fun Q j y => Or.inl ⟨y.1, Or.inl ⟨y.2.1, by have := y.2.2; omega⟩⟩)), ?_, ⟨nf + 1, fa, fl, seK K1 L1 13 0, H1, L1 + 1, u1, Nat.le_succ _, ⟨hF.1, fun i hi => ?_⟩, ⟨?_, ?_⟩, ⟨?_, ?_, z33⟩, m3.eq (fun Q j y => t3.2 _ _ (fun z => by unfold sTC at z; omega)), l2.eq (fun Q j y => t4.2 _ _ (fun z => by unfold sTM at z; omega)), by omega, fun f hf => ?_, n1⟩, s3, e3, kd3, v3, w3', k1, ?_⟩
        · rw [t3.2 _ _ (fun z => by unfold sTC at z; omega), c9 _ _ (fun z => by unfold sEm at z; omega)]; exact z7
        · obtain ⟨y0, y1, y2, y3, y4⟩ := hF.2 i hi
          exact ⟨y0, by rw [cR _ _ (by decide) (no_em q3 (Or.inl rfl)) (no_rc q3 (Or.inl rfl)) (fun z => by have := z.1; omega)]; exact y1, by rw [cR _ _ (by decide) (no_em q3 (Or.inr (Or.inl rfl))) (no_rc q3 (Or.inr (Or.inl rfl))) (fun z => by have := z.1; omega)]; exact y2, by rw [tR _ _ (by omega) (fun z => by unfold sRM sLa at z; omega), o77 _ _ (by omega)]; exact y3, by rw [tR _ _ (by omega) (fun z => by unfold sRM sLa at z; omega), o77 _ _ (by omega)]; exact y4⟩
        · rw [cR _ _ (by omega) (fun z => by unfold sEm at z; omega) (fun z => by unfold sRC at z; omega) (by omega)]; exact h6
        · rw [tR _ _ (by omega) (fun z => by unfold sRM sLa at z; omega), ← hT7]; exact gI_h rfl rfl
        · rw [t3.2 _ _ (fun z => by unfold sTC at z; omega), c9 _ _ (fun z => by unfold sEm at z; omega)]; exact z31
        · rw [t4.2 _ _ (fun z => by unfold sTM at z; omega), t9 _ _ (fun z => by unfold sLa at z; omega)]; exact z32
        · obtain ⟨r1, r2, r3, r4, r5⟩ := n2 f hf
          refine ⟨r1, r2, r3, ?_, ?_, ?_, ?_⟩
          · rw [r4, cR _ _ (fun z => by omega) (no_em q3 (Or.inr (Or.inr (Or.inl rfl)))) (no_rc q3 (Or.inr (Or.inr (Or.inl rfl)))) (fun z => by have := z.1; omega)]
            by_cases c : f = nf
            · rw [if_pos c, c]; exact hent
            · rw [if_neg c]; exact (hfn f (by omega)).2.2.2.1
          · rw [r4, tR _ _ (by omega) (fun z => by unfold sRM sLa at z; omega)]
            by_cases c : f = nf
            · rw [if_pos c, c, ← hT7, gI_n (by omega)]; exact gI_h rfl rfl
            · rw [if_neg c, o77 _ _ (by omega)]; exact (hfn f (by omega)).2.2.2.2.1
          · rw [r5, t3.2 _ _ (fun z => by have := z.1; omega), c9 _ _ (no_em q3 (Or.inr (Or.inr (Or.inr rfl)))), cB _ _ (no_rc q3 (Or.inr (Or.inr (Or.inr rfl))))]
            by_cases c : f = nf
            · rw [if_pos c, c]; exact cA2
            · rw [if_neg c, cA _ _ (by omega) (by omega)]; exact (hfn f (by omega)).2.2.2.2.2.1
          · rw [r5, tR _ _ (by omega) (fun z => by unfold sRM sLa at z; omega)]
            by_cases c : f = nf
            · rw [if_pos c, c, ← hT7, gI_n (by omega), gI_n (by omega)]; exact gI_h rfl rfl
            · rw [if_neg c, o77 _ _ (by omega)]; exact (hfn f (by omega)).2.2.2.2.2.2
        · have := h.2.2.2.1.1
          have := z1.1
          omega
end IS
