/-! both objects in one state; how it is at the beginning -/
section IS
variable {q1 q2 B W n L F U U1 r p l N : Nat} {K : aK} {H tf rg : Nat → Nat} {gv : Nat → Nat → Int32} {σ σ1 σ2 τ τ1 τ2 : zS}
theorem IV.lr (h : IV q1 q2 B W n K L F H tf gv p l rg U σ τ) (hs : ∀ q, q < 468 → σ1.1 q = σ.1 q ∧ σ1.2 q = σ.2 q) (ht : ∀ q, 468 ≤ q → τ1.1 q = τ.1 q) : IV q1 q2 B W n K L F H tf gv p l rg U σ1 τ1 := by
  have hq := h.pr.2.2
  obtain ⟨a1, a2, a3, a4, a5, a6, a7, a8, a9, ⟨nt, t1, t2, t3, t4⟩, a11, a12⟩ := h
  have s1 : ∀ q j, q < 468 → σ1.1 q j = σ.1 q j := fun q j z => congrFun (hs q z).1 j
  have s2 : ∀ q j, q < 468 → σ1.2 q j = σ.2 q j := fun q j z => congrFun (hs q z).2 j
  have m1 : ∀ q j, 468 ≤ q → τ1.1 q j = τ.1 q j := fun q j z => congrFun (ht q z) j
  refine ⟨a1, (s2 _ _ (by omega)).trans a2, (s2 _ _ (by omega)).trans a3, (m1 _ _ (by omega)).trans a4, a5.eq (fun j => s1 _ _ (by omega)) (fun q j z1 z2 => m1 _ _ (by omega)), a6.eq2 (m1 _ _ (by omega)) (fun q j z1 z2 => s1 _ _ (by omega)) (fun q j z1 z2 => m1 _ _ (by omega)), ?_, fun b hb => ⟨?_, fun z => ?_⟩, ⟨fun b hb => (s2 _ _ (by omega)).trans (a9.1 b hb), fun v hv => (s2 _ _ (by omega)).trans (a9.2.1 v hv), fun b hb v hv => (s2 _ _ (by omega)).trans (a9.2.2.1 b hb v hv), fun i hi => ⟨(s2 _ _ (by omega)).trans (a9.2.2.2.1 i hi).1, (s2 _ _ (by omega)).trans (a9.2.2.2.1 i hi).2⟩, (s2 _ _ (by omega)).trans a9.2.2.2.2⟩, ⟨nt, t1, (s1 _ _ (by omega)).trans t2, (m1 _ _ (by omega)).trans t3, fun i hi => ?_⟩, ⟨?_, ?_⟩, fun i hi => (m1 _ _ (by omega)).trans (a12 i hi)⟩
  · obtain ⟨h1, h2, h3, h4, h5, h6, h7, h8, h9, h10, h11, h12⟩ := a7
    have sg : ∀ k τ2, k < 13 → RW q1 B W n K L F H tf gv U (rg k) σ τ2 → RW q1 B W n K L F H tf gv U (rg k) σ1 τ2 := fun k τ2 hk g => by
      obtain ⟨c, c1, c2⟩ := h6 k hk
      exact g.sig (fun q j z => s1 _ _ (by omega)) (fun q j z1 z2 => s2 _ _ (by omega))
    have mv : ∀ k o, k < 13 → RW q1 B W n K L F H tf gv U (rg k) σ (tw τ 498 o) → RW q1 B W n K L F H tf gv U (rg k) σ1 (tw τ1 498 o) := fun k o hk g => by
      refine (sg k _ hk g).tau ?_ (fun q j z => ?_) (fun j hj => ?_)
      · rw [tw_o (by decide), tw_o (by decide)]; exact m1 _ _ (by omega)
      · rw [tw_o (by omega), tw_o (by omega)]; exact m1 _ _ (by omega)
      · rw [tw_h, tw_h]; exact m1 _ _ (by omega)
    refine ⟨h1, (s1 _ _ (by omega)).trans h2, (s1 _ _ (by omega)).trans h3, (m1 _ _ (by omega)).trans h4, (m1 _ _ (by omega)).trans h5, h6, h7, fun i hi => (s2 _ _ (by omega)).trans (h8 i hi), fun i hi v hv => ?_, ?_, fun k hk => mv k _ (by omega) (h11 k hk), fun k k1 k2 => mv k _ (by omega) (h12 k k1 k2)⟩
    · obtain ⟨c, c1, c2⟩ := h6 i hi
      rw [s2 _ _ (by omega)]
      exact h9 i hi v hv
    · exact (sg p _ (by omega) h10).tau (m1 _ _ (by omega)) (fun q j z => m1 _ _ (by omega)) (fun j z => m1 _ _ (by omega))
  · rw [s1 _ _ (by omega), m1 _ _ (by omega)]
    exact (a8 b hb).1
  · rw [s1 _ _ (by omega)] at z
    refine (((a8 b hb).2 z).sig (fun q j z => s1 _ _ (by omega)) (fun q j z1 z2 => s2 _ _ (by omega))).tau ?_ (fun q j z => ?_) (fun j hj => ?_)
    · rw [tw_o (by decide), tw_o (by decide)]; exact m1 _ _ (by omega)
    · rw [tw_o (by omega), tw_o (by omega)]; exact m1 _ _ (by omega)
    · rw [tw_h, tw_h]; exact m1 _ _ (by omega)
  · obtain ⟨b, b1, b2, b3⟩ := t4 i hi
    exact ⟨b, b1, (s1 _ _ (by omega)).trans b2, (m1 _ _ (by omega)).trans b3⟩
  · rw [s1 _ _ (by omega), m1 _ _ (by omega)]
    exact a11.1
  · rw [s1 _ _ (by omega), m1 _ _ (by omega)]
    exact a11.2
theorem Inv.lr (h : Inv U σ τ) (hs : ∀ q, q < 468 → σ1.1 q = σ.1 q ∧ σ1.2 q = σ.2 q) (ht : ∀ q, 468 ≤ q → τ1.1 q = τ.1 q) : Inv U σ1 τ1 := by
  obtain ⟨q1, q2, B, W, n, K, L, F, H, tf, gv, p, l, rg, h⟩ := h
  exact ⟨q1, q2, B, W, n, K, L, F, H, tf, gv, p, l, rg, h.lr hs ht⟩
/-- what holds at the law's loop -/
def LWs (U : Nat) (σ : zS) : Prop := Inv U σ σ ∧ TRD σ
theorem LWs.up (h : LWs U σ) (hu : U ≤ U1) : LWs U1 σ := ⟨h.1.up hu, h.2⟩
/-- a call of the class, then one of the reference -/
theorem pr2_use {pc : Prop} {pr : zS → Prop} {a : Int32 × zS} {b : zS → Int32 × zS} (hI : LWs U σ) (h : ∀ τ, Inv U σ τ → PR2 U1 pc (pr τ) a (b τ) σ τ) : pc ∧ (∀ q j, 468 ≤ q → a.2.1 q j = σ.1 q j) ∧ pr a.2 ∧ a.1 = (b a.2).1 ∧ LWs U1 (b a.2).2 := by
  obtain ⟨k1, -, -, -, k5, -⟩ := h σ hI.1
  have i1 : Inv U σ a.2 := hI.1.lr (fun q _ => ⟨rfl, rfl⟩) (fun q hq => (k5 q (by omega)).1)
  obtain ⟨-, j2, j3, j4, -, j6⟩ := h a.2 i1
  refine ⟨k1, fun q j hq => k5.at (by omega), j2, j3, j4.lr (fun q hq => ⟨(j6 q (by omega)).1, (j6 q (by omega)).2⟩) (fun q _ => rfl), fun i hi => ?_⟩
  rw [j6.at (by omega), j6.at (by omega), k5.at (by omega), k5.at (by omega)]
  exact hI.2 i hi
theorem z468 : iI 468 27 = 0 ∧ iI 468 28 = -1 ∧ (zlay 486).1 = 21 := by decide +kernel
theorem ltr_ok : ∀ i, i < 78 → iL.getD i 0 = nI (ltrs.getD i 0) := by decide +kernel
/-- the beginning: the class's object -/
def fsC (N : Nat) (σ : zS) : zS := s_X1_startAnew 16 N (zini 0 468 σ)
def fsM (N : Nat) (σ : zS) : zS := s_X9_clearBank 0 (zini 468 501 σ)
theorem ini1 {o e q j : Nat} (h : o ≤ q ∧ q < e) : (zini o e σ).1 q j = iI q j := if_pos h
theorem ini2 {o e q j : Nat} (h : o ≤ q ∧ q < e) : (zini o e σ).2 q j = iR q j := if_pos h
theorem ini1n {o e q j : Nat} (h : ¬ (o ≤ q ∧ q < e)) : (zini o e σ).1 q j = σ.1 q j := if_neg h
theorem ini2n {o e q j : Nat} (h : ¬ (o ≤ q ∧ q < e)) : (zini o e σ).2 q j = σ.2 q j := if_neg h
theorem iR_row {c v : Nat} (hc : c < 13) (hv : v < 4) : iR (32 + 25 * c + 4) v = 32 + 25 * c + 5 + 5 * v + 1 := by
  unfold iR
  rw [rly_h c hc 4 (by decide)]
  show (if v < 4 then 32 + 25 * c + 4 + 2 + 5 * v else 0) = _
  rw [if_pos hv]
  omega
theorem iR_box {b v : Nat} (hb : b < 2) (hv : v < 4) : iR (394 + 25 * b + 4) v = 394 + 25 * b + 5 + 5 * v + 1 := by
  rcases (show b = 0 ∨ b = 1 by omega) with rfl | rfl
  · show (if v < 4 then 398 + 2 + 5 * v else 0) = _
    rw [if_pos hv]
    omega
  · show (if v < 4 then 423 + 2 + 5 * v else 0) = _
    rw [if_pos hv]
    omega
theorem fs_inv (hN : 200000 < N) (ht : TRD σ) : p_X1_startAnew 16 N (zini 0 468 σ) ∧ p_X9_startAnew N (fsM N (fsC N σ)) ∧ LWs 0 (s_X9_startAnew N (fsM N (fsC N σ))) := by
  have fM : ∀ ρ : zS, ∀ Q j, ¬ (470 ≤ Q ∧ Q ≤ 479 ∧ j = 0) → (fsM N ρ).1 Q j = (zini 468 501 ρ).1 Q j := fun ρ Q j y => by
    show (zuI (zuI (zuI (zuI (zuI (zuI (zuI (zuI (zuI (zuI (zini 468 501 ρ) 470 0 6) 471 0 0) 472 0 0) 473 0 8) 474 0 10) 475 0 1) 476 0 0) 477 0 0) 478 0 0) 479 0 0).1 Q j = _
    ((repeat (first | refine Eq.trans (gI_h (by omega) (by omega)) ?_ | refine Eq.trans (gI_n (by omega)) ?_ | refine Eq.trans gR_1 ?_)) <;> (try rfl))
  have fV : ∀ ρ : zS, (fsM N ρ).1 470 0 = nI 6 ∧ (fsM N ρ).1 471 0 = nI 0 ∧ (fsM N ρ).1 472 0 = nI 0 ∧ (fsM N ρ).1 473 0 = nI 8 ∧ (fsM N ρ).1 474 0 = nI 10 ∧ (fsM N ρ).1 475 0 = nI 1 ∧ (fsM N ρ).1 476 0 = nI 0 ∧ (fsM N ρ).1 477 0 = nI 0 ∧ (fsM N ρ).1 478 0 = nI 0 := fun ρ => by
    have e : fsM N ρ = zuI (zuI (zuI (zuI (zuI (zuI (zuI (zuI (zuI (zuI (zini 468 501 ρ) 470 0 6) 471 0 0) 472 0 0) 473 0 8) 474 0 10) 475 0 1) 476 0 0) 477 0 0) 478 0 0) 479 0 0 := rfl
    rw [e]
    refine ⟨?_, ?_, ?_, ?_, ?_, ?_, ?_, ?_, ?_⟩
    all_goals ((repeat (first | refine Eq.trans (gI_h (by omega) (by omega)) ?_ | refine Eq.trans (gI_n (by omega)) ?_ | refine Eq.trans gR_1 ?_)) <;> (try rfl))
  have fR : ∀ ρ : zS, (fsM N ρ).2 = (zini 468 501 ρ).2 := fun ρ => rfl
  have m16 : ∀ ρ : zS, (fsM N ρ).1 468 16 = nI 0 := fun ρ => (fM ρ _ _ (by omega)).trans (ini1 (by omega))
  obtain ⟨σe, hσe⟩ : ∃ s, s = zuI (zuI (zini 0 468 σ) 30 1 0) 30 2 0 := ⟨_, rfl⟩
  have eI : ∀ q j, ¬ q = 30 → q < 468 → σe.1 q j = iI q j := fun q j y1 y2 => by
    rw [hσe, gI_n (by omega), gI_n (by omega)]
    exact ini1 (by omega)
  have eR : ∀ q j, q < 468 → σe.2 q j = iR q j := fun q j y2 => by
    rw [hσe]
    exact ini2 (by omega)
  have e30 : σe.1 30 1 = nI 0 ∧ σe.1 30 2 = nI 0 := by
    rw [hσe]
    refine ⟨?_, ?_⟩
    all_goals ((repeat (first | refine Eq.trans (gI_h (by omega) (by omega)) ?_ | refine Eq.trans (gI_n (by omega)) ?_ | refine Eq.trans gR_1 ?_)) <;> (try rfl))
  have hl : Rly 32 := Rly.hist ⟨0, by omega, rfl⟩
  have e31 : ∀ i, i < 13 → iR 31 i = 32 + 25 * i + 1 := fun i hi => by
    show (if 31 = 31 then (if i < 13 then 33 + 25 * i else 0) else (if i < 2 then 395 + 25 * i else 0)) = _
    rw [if_pos rfl, if_pos hi]
    omega
  obtain ⟨n1, n2⟩ := now_ok (σ := σe) (p := 0) (r := 32) (by omega) e30.1 ((eR _ _ (by omega)).trans (e31 0 (by omega))) (Rly.self hl)
  have hC : fsC N σ = s_X4_startAnew 32 16 N σe := by
    unfold fsC s_X1_startAnew u_X1_startAnew_3
    show s_X4_startAnew (f_X1_now (zuI (zuI (zini 0 468 σ) 30 1 0) 30 2 0)) 16 N (zuI (zuI (zini 0 468 σ) 30 1 0) 30 2 0) = _
    rw [← hσe, n1]
  have hptr : ∀ v, v < 4 → σe.2 (32 + 4) v = 32 + 5 + 5 * v + 1 := fun v hv => (eR _ _ (by omega)).trans (iR_row (c := 0) (by omega) hv)
  have hPH : ∀ ρ : zS, PH σe 16 (fsM N ρ) 0 6 0 0 := fun ρ => by
    obtain ⟨v0, v1, v2, v3, v4, v5, v6, v7, v8⟩ := fV ρ
    exact ⟨⟨by omega, by omega⟩, by omega, eI _ _ (by omega) (by omega), v0, ⟨0, 0, by omega, by omega, eI _ _ (by omega) (by omega), v1, eI _ _ (by omega) (by omega), v2, by omega, by omega⟩, ⟨8, by omega, by omega, eI _ _ (by omega) (by omega), v3⟩, ⟨10, 1, by omega, by omega, eI _ _ (by omega) (by omega), v4, eI _ _ (by omega) (by omega), v5⟩, eI _ _ (by omega) (by omega), v6, eI _ _ (by omega) (by omega), v7, (eI _ _ (by omega) (by omega)).trans v8.symm⟩
  have hPK : ∀ ρ : zS, PK σe 16 (fsM N ρ) 0 (fun _ => 0, fun _ => 0, fun _ => 0, fun _ => 0) 0 0 (fun _ => 0) 0 (fun _ => 0) (fun _ _ => 0) := fun ρ => ⟨⟨by omega, by omega, fun f hf => absurd hf (by omega), fun i hi => absurd hi (by omega)⟩, ⟨fun i hi => absurd hi (by omega), fun f hf => absurd hf (by omega)⟩, ⟨by omega, m16 ρ, fun i hi => absurd hi (by omega), fun f hf => absurd hf (by omega)⟩, by omega, fun t ht => absurd ht (by omega)⟩
  obtain ⟨j1, j2, j3, j4⟩ := pr_anew (C := fun _ => (0, fun _ => 0, fun _ _ => 0, fun _ => 0, 0)) (N := N) (by omega) hl (show 16 + 7 ≤ 32 ∨ 32 + 25 ≤ 16 by omega) hptr (m16 (fsC N σ)) (hPH (fsC N σ)) (hPK (fsC N σ))
  obtain ⟨-, -, r3, r4, -, -, r7, r8, -, -, r11, r12, r13, r14, r15⟩ := rf_anew (N := N) (by omega) (show 0 < 2 by omega) (m16 (fsC N σ)) (fV (fsC N σ)).2.2.2.2.2.2.2.1 (show 0 ≤ 4 by omega)
  refine ⟨?_, j2, ?_⟩
  · show p_X1_now (zuI (zuI (zini 0 468 σ) 30 1 0) 30 2 0) ∧ p_X4_startAnew (f_X1_now (zuI (zuI (zini 0 468 σ) 30 1 0) 30 2 0)) 16 N (zuI (zuI (zini 0 468 σ) 30 1 0) 30 2 0)
    rw [← hσe, n1]
    exact ⟨n2, j1⟩
  have hp := hPH (fsC N σ)
  have hk := hPK (fsC N σ)
  have vv := fV (fsC N σ)
  have mm := fM (fsC N σ)
  have rr := fR (fsC N σ)
  have mm16 := m16 (fsC N σ)
  rw [← hC] at j3 j4
  generalize fsM N (fsC N σ) = τd at *
  generalize hτ2 : s_X9_startAnew N τd = τ2 at *
  have t16 : τ2.1 468 16 = nI 0 := (r14 _ _ (by omega) (by omega) (by omega)).trans mm16
  have tO : ∀ Q j, ¬ Q = 469 → ¬ (Q = 468 ∧ (j = 55 ∨ j = 56)) → ¬ Q = 500 → ¬ (470 ≤ Q ∧ Q ≤ 479 ∧ j = 0) → τ2.1 Q j = (zini 468 501 (fsC N σ)).1 Q j := fun Q j y1 y2 y3 y4 => (r14 _ _ y1 y2 y3).trans (mm _ _ y4)
  have tI : ∀ Q j, ¬ Q = 469 → ¬ (Q = 468 ∧ (j = 55 ∨ j = 56)) → ¬ Q = 500 → ¬ (470 ≤ Q ∧ Q ≤ 479 ∧ j = 0) → 468 ≤ Q → Q < 501 → τ2.1 Q j = iI Q j := fun Q j y1 y2 y3 y4 y5 y6 => (tO Q j y1 y2 y3 y4).trans (ini1 ⟨y5, y6⟩)
  have hW : RW 16 0 6 0 (fun _ => 0, fun _ => 0, fun _ => 0, fun _ => 0) 0 0 (fun _ => 0) (fun _ => 0) (fun _ _ => 0) 0 32 (fsC N σ) τ2 :=
    ⟨_, _, _, _, _, _, 0, 0, 0, j3, ⟨by omega, by omega, by omega, fun _ _ _ => rfl⟩, r3 0 (by omega), ⟨8, by omega, by omega, r4.trans vv.2.2.2.1⟩, 10, 1, by omega, by omega, r7.trans vv.2.2.2.2.1, r8.trans vv.2.2.2.2.2.1⟩
  have sI : ∀ q j, ¬ q = 30 → q < 468 → ¬ (32 ≤ q ∧ q < 57) → (fsC N σ).1 q j = iI q j := fun q j y1 y2 y3 => (j4.at (by omega)).trans (eI _ _ y1 y2)
  have sR : ∀ q j, q < 468 → ¬ (32 ≤ q ∧ q < 57) → (fsC N σ).2 q j = iR q j := fun q j y2 y3 => (j4.at2 (by omega)).trans (eR _ _ y2)
  have hIV : IV 16 23 0 6 0 (fun _ => 0, fun _ => 0, fun _ => 0, fun _ => 0) 0 0 (fun _ => 0) (fun _ => 0) (fun _ _ => 0) 0 0 (fun i => 32 + 25 * i) 0 (fsC N σ) τ2 := by
    refine ⟨by omega, sR _ _ (by omega) (by omega), sR _ _ (by omega) (by omega), t16, hp.bnk (fun j => j4.at (by omega)) (fun Q j y => r14 _ _ (by have := bk_n y; omega) (by have := bk_n y; omega) (by have := bk_n y; omega)), (hk.bnk (t16.trans mm16.symm) (fun Q j y => r14 _ _ (by have := bk_n y; omega) (by have := bk_n y; omega) (by have := bk_n y; omega))).eq (fun Q j y1 y2 => j4.at (by omega)), ⟨⟨by omega, by omega⟩, (j4.at (by omega)).trans e30.1, (j4.at (by omega)).trans e30.2, r11, r12, fun i hi => ⟨i, hi, rfl⟩, fun i j hi hj y => ?_, fun i hi => ?_, fun i hi v hv => ?_, hW, fun k hk => absurd hk (by omega), fun k y1 y2 => absurd y1 (by omega)⟩, fun k hk => ⟨?_, fun y => absurd ?_ y⟩, ⟨fun k hk => ?_, fun v hv => ?_, fun k hk v hv => ?_, fun i hi => ⟨?_, ?_⟩, ?_⟩, ⟨0, by omega, ?_, ?_, fun i hi => absurd hi (by omega)⟩, ⟨?_, ?_⟩, fun i hi => ?_⟩
    · have y : 32 + 25 * i = 32 + 25 * j := y
      omega
    · exact (sR _ _ (by omega) (by omega)).trans (e31 i hi)
    · by_cases ci : i = 0
      · subst ci
        exact hW.ptr v hv
      · show (fsC N σ).2 (32 + 25 * i + 4) v = 32 + 25 * i + 5 + 5 * v + 1
        exact (sR _ _ (by omega) (by omega)).trans (iR_row hi hv)
    · rw [r13 k hk]
      exact sI _ _ (by omega) (by omega) (by omega)
    · exact sI _ _ (by omega) (by omega) (by omega)
    · rw [sR _ _ (by omega) (by omega)]
      show (if 357 = 31 then (if k < 13 then 33 + 25 * k else 0) else (if k < 2 then 395 + 25 * k else 0)) = _
      rw [if_neg (by decide), if_pos hk]
      omega
    · rw [sR _ _ (by omega) (by omega)]
      show (if v < 4 then 363 + 2 + 5 * v else 0) = _
      rw [if_pos hv]
      omega
    · exact (sR _ _ (by omega) (by omega)).trans (iR_box hk hv)
    · rw [sR _ _ (by omega) (by omega)]
      show (if i < 4 then 445 + 6 * i else 0) = _
      rw [if_pos hi]
      omega
    · rw [sR _ _ (by omega) (by omega)]
      rcases (show i = 0 ∨ i = 1 ∨ i = 2 ∨ i = 3 by omega) with rfl | rfl | rfl | rfl <;> rfl
    · exact sR _ _ (by omega) (by omega)
    · exact sI _ _ (by omega) (by omega) (by omega)
    · exact tI _ _ (by omega) (by omega) (by omega) (by omega) (by omega) (by omega)
    · have e1 : (fsC N σ).1 0 3 = 0 := sI _ _ (by omega) (by omega) (by omega)
      have e2 : τ2.1 468 27 = 0 := (tI _ _ (by omega) (by omega) (by omega) (by omega) (by omega) (by omega)).trans z468.1
      exact e1.trans e2.symm
    · have e1 : (fsC N σ).1 0 4 = -1 := sI _ _ (by omega) (by omega) (by omega)
      have e2 : τ2.1 468 28 = -1 := (tI _ _ (by omega) (by omega) (by omega) (by omega) (by omega) (by omega)).trans z468.2.1
      exact e1.trans e2.symm
    · rw [tI _ _ (by omega) (by omega) (by omega) (by omega) (by omega) (by omega)]
      have e1 : iI 486 i = iL.getD i 0 := by
        unfold iI
        rw [z468.2.2]
        exact if_pos rfl
      rw [e1]
      exact ltr_ok i hi
  refine ⟨⟨_, _, _, _, _, _, _, _, _, _, _, _, _, _, hIV.lr (fun q hq => ⟨funext fun j => ?_, ?_⟩) (fun q _ => rfl)⟩, fun i hi => ?_⟩
  · exact (tO _ _ (by omega) (by omega) (by omega) (by omega)).trans (ini1n (by omega))
  · rw [r15, rr]
    exact funext fun j => ini2n (by omega)
  · have k : ∀ Q j, 501 ≤ Q → τ2.1 Q j = σ.1 Q j := fun Q j y => (tO _ _ (by omega) (by omega) (by omega) (by omega)).trans ((ini1n (by omega)).trans ((j4.at (by omega)).trans (by
      rw [hσe, gI_n (by omega), gI_n (by omega)]
      exact ini1n (by omega))))
    rw [k _ _ (by omega), k _ _ (by omega)]
    exact ht i hi
end IS
