/-! an event, whole -/
theorem Cm.eq {m r a e : Nat} {σ σ1 : zS} {K : aK} {c : aC} (h : Cm m σ r a K c e) (h1 : ∀ q j, ((a ≤ q ∧ q < a + 4) ∨ q < r ∨ r + 25 ≤ q) → σ1.1 q j = σ.1 q j) (h2 : σ1.2 a 4 = σ.2 a 4) : Cm m σ1 r a K c e := by
  rcases h with ⟨g1, ⟨c0, c1, c2, c3, c4, c5⟩, g3⟩ | ⟨g1, g2, Q, s, p1, p2, p3, p4, p5, p6⟩
  · refine Or.inl ⟨g1, ⟨(h1 _ _ (by omega)).trans c0, fun y => (h1 _ _ (by omega)).trans (c1 y), (h1 _ _ (by omega)).trans c2, fun j hj => (h1 _ _ (by omega)).trans (c3 j hj), fun k i k1 k2 hi => (h1 _ _ (by omega)).trans (c4 k i k1 k2 hi), fun k k1 k2 => (h1 _ _ (by omega)).trans (c5 k k1 k2)⟩, h2.trans g3⟩
  · exact Or.inr ⟨g1, (h1 _ _ (by omega)).trans g2, Q, s, h2.trans p1, p2, p3, (h1 _ _ (by omega)).trans p4, p5, fun k k1 k2 => (h1 _ _ (by omega)).trans (p6 k k1 k2)⟩
theorem Cb.eq {m r a e : Nat} {σ σ1 : zS} {K : aK} {c : aC} (h : Cb m σ r a K c e) (h1 : ∀ q j, ((a ≤ q ∧ q < a + 4) ∨ q < r ∨ r + 25 ≤ q) → σ1.1 q j = σ.1 q j) (h2 : σ1.2 a 4 = σ.2 a 4) : Cb m σ1 r a K c e := by
  rcases h with ⟨g1, g3⟩ | ⟨g1, Q, s, p1, p2, p3, p4, p5, p6⟩
  · exact Or.inl ⟨g1, h2.trans g3⟩
  · exact Or.inr ⟨g1, Q, s, h2.trans p1, p2, p3, (h1 _ _ (by omega)).trans p4, p5, fun k k1 k2 => (h1 _ _ (by omega)).trans (p6 k k1 k2)⟩
theorem PK.eq {σ σ1 τ : zS} {q1 B L F n : Nat} {K : aK} {H tf : Nat → Nat} {gv : Nat → Nat → Int32} (h : PK σ q1 τ B K L F H n tf gv) (h1 : ∀ q j, q1 ≤ q → q < q1 + 7 → σ1.1 q j = σ.1 q j) : PK σ1 q1 τ B K L F H n tf gv := by
  obtain ⟨g1, ⟨k1, k2⟩, g3, g4, g5⟩ := h
  refine ⟨g1, ⟨fun i hi => ⟨(h1 _ _ (by omega) (by omega)).trans (k1 i hi).1, (h1 _ _ (by omega) (by omega)).trans (k1 i hi).2⟩, fun f hf => ⟨(h1 _ _ (by omega) (by omega)).trans (k2 f hf).1, (h1 _ _ (by omega) (by omega)).trans (k2 f hf).2⟩⟩, g3, g4, fun t ht => ?_⟩
  obtain ⟨a, b, c, d⟩ := g5 t ht
  exact ⟨a, (h1 _ _ (by omega) (by omega)).trans b, c, fun i hi => ⟨(h1 _ _ (by omega) (by omega)).trans (d i hi).1, (d i hi).2⟩⟩
theorem tyC_h {K : aK} {L F : Nat} {H : Nat → Nat} {c : aC} (hw : wfK K L F H) (h : tyC L H c) : c.2.2.2.2 ≤ 2440 := by
  have hb := ty_top hw h
  have h1 := h.2.2.2
  have h2 := hb.1
  have h3 : H (c.2.1 c.1) ≤ 28 := (hw.2.2.2 _ hb.2.1.1).1
  omega
theorem tyC_h6 {K : aK} {L F : Nat} {H : Nat → Nat} {c : aC} (hw : wfK K L F H) (h : tyC L H c) : c.2.2.2.2 ≤ 1680 := by
  have hb := ty_top hw h
  have h1 := h.2.2.2
  have h2 := hb.1
  have h3 : H (c.2.1 c.1) ≤ 28 := (hw.2.2.2 _ hb.2.1.1).1
  omega
theorem cells_no {r t v q j : Nat} (hv : v < 4) (ht : t < 4) (hvt : ¬ v = t) (hq : (r + 6 + 5 * v ≤ q ∧ q < r + 6 + 5 * v + 4) ∨ q < r ∨ r + 25 ≤ q) : ¬ (q = r ∧ (j = 7 ∨ j = 8 ∨ j = 9 ∨ j = 12)) ∧ ¬ (q = r + 5 + 5 * t ∧ (j = 4 ∨ j = 5)) ∧ ¬ sXc r t q j := by
  refine ⟨by omega, by omega, fun z => ?_⟩
  unfold sXc sX sRm at z
  rcases z with ((z | z | z | z | ⟨w, z⟩) | ⟨w, z⟩) | z | z <;> omega
theorem prog_no {r t q1 q j : Nat} (ht : t < 4) (hq1 : q1 + 7 ≤ r ∨ r + 25 ≤ q1) (m1 : q1 ≤ q) (m2 : q < q1 + 7) : ¬ (q = r ∧ (j = 7 ∨ j = 8 ∨ j = 9 ∨ j = 12)) ∧ ¬ (q = r + 5 + 5 * t ∧ (j = 4 ∨ j = 5)) ∧ ¬ sXc r t q j := by
  refine ⟨by omega, by omega, fun z => ?_⟩
  unfold sXc sX sRm at z
  rcases z with ((z | z | z | z | ⟨w, z⟩) | ⟨w, z⟩) | z | z <;> omega
theorem out_no {r t q j : Nat} (ht : t < 4) (hq : q < r ∨ r + 25 ≤ q) : ¬ (q = r ∧ (j = 7 ∨ j = 8 ∨ j = 9 ∨ j = 12)) ∧ ¬ (q = r + 5 + 5 * t ∧ (j = 4 ∨ j = 5)) ∧ ¬ sXc r t q j := by
  refine ⟨by omega, by omega, fun z => ?_⟩
  unfold sXc sX sRm at z
  rcases z with ((z | z | z | z | ⟨w, z⟩) | ⟨w, z⟩) | z | z <;> omega
/-- what the reference changes in an event -/
def sYa (q j : Nat) : Prop := (q = 469 ∧ j < 11440) ∨ q = 492 ∨ (q = 468 ∧ (j = 41 ∨ j = 42))
theorem sN_a {q j : Nat} (h : sN q j) : sYa q j := by
  unfold sN at h
  unfold sYa
  omega
theorem sYm_a {t q j : Nat} (ht : t < 4) (h : sYm t q j) : sYa q j := by
  unfold sYm sN at h
  unfold sYa
  omega
theorem ev_fin {m sl al r q1 t B W n N L F e T M : Nat} {K : aK} {H tf D RS TP ST : Nat → Nat} {gv : Nat → Nat → Int32} {dT dM res : Int32} {σ τ σ1 τ1 : zS} {A : Nat → Int32} {C : Nat → aC} {nc : aC} (h : RX m sl al r q1 B W n K L F H tf gv dT dM e T M σ τ A D RS TP ST C) (hN : 500 < N) (ht : t < n) (hA3 : A 3 = nI t) (hST : ST t ≤ 1) (g : EvR 4 37 m sl al r t W n K L H dT dM e T M σ τ A D RS TP ST nc res σ1 τ1) : p_X4_passTurn r N (epD r (r + 5 + 5 * t) res σ1) ∧ (p_X9_isOver (nI t) (epM t τ1) ∧ p_X9_passOn N (epM t τ1)) ∧ ∃ (A' : Nat → Int32) (D' RS' TP' ST' : Nat → Nat) (T' M' : Nat), RX m sl al r q1 B W n K L F H tf gv dT dM (e + 1) T' M' (s_X4_passTurn r N (epD r (r + 5 + 5 * t) res σ1)) (if f_X9_isOver (nI t) (epM t τ1) = 0 then (if (epM t τ1).1 469 4 < (epM t τ1).1 469 5 then epM t τ1 else s_X9_passOn N (epM t τ1)) else s_X9_passOn N (epM t τ1)) A' D' RS' TP' ST' (cu C t nc) ∧ (T ≤ T' ∧ T' ≤ T + 4) ∧ (M ≤ M' ∧ M' ≤ M + 37) ∧ A' 0 = A 0 + 1 ∧ (∀ i, 5 ≤ i → i ≤ 9 → A' i = A i) ∧ (∀ v, ¬ v = t → ST' v = ST v) ∧ ((ST' t = 1 ∧ 1 ≤ nc.1 ∧ nc.1 ≤ 60) ∨ (nc.1 = 0 ∧ ST' t = 2) ∨ (nc.1 = 61 ∧ ST' t = 3)) ∧ zfr r (r + 25) σ (s_X4_passTurn r N (epD r (r + 5 + 5 * t) res σ1)) ∧ rfr sYa τ (if f_X9_isOver (nI t) (epM t τ1) = 0 then (if (epM t τ1).1 469 4 < (epM t τ1).1 469 5 then epM t τ1 else s_X9_passOn N (epM t τ1)) else s_X9_passOn N (epM t τ1)) ∧ (s_X4_passTurn r N (epD r (r + 5 + 5 * t) res σ1)).1 (r + 5 + 5 * t) 1 = nI (ST' t) := by
  obtain ⟨⟨hl, hq1⟩, hs, hC, hO, h3, hK, hM, hW, hu, hU, hP, hTu, hmo, hSt, hc1, hc0, hpt, hou, hsl, hwt⟩ := h
  obtain ⟨A1, D1, RS1, TP1, ST1, T1, M1, u, ⟨rfl, uW⟩, g2, g3, g4, g5, g6, g7, g8, g9, g10, g11, g12, g13, g14, g15, g16, g17, g18⟩ := g
  have hn4 := hP.2.2.2.1
  have hw6 := hP.1
  have ht4 : t < 4 := by omega
  obtain ⟨E1, E2, E3, E4⟩ := ep_cl (u := u) ht4 g3 g2
  generalize hmx : mxI (A1 (140 + 20 * t)) (A1 (137 + 20 * t)) = mx at g6 E1
  have k0 : A1 0 = A 0 := g17 0 (Or.inl rfl)
  have k3 : A1 3 = A 3 := g17 3 (Or.inr (Or.inl (by omega)))
  have k4 : A1 4 = A 4 := g17 4 (Or.inr (Or.inl (by omega)))
  obtain ⟨F1, F2⟩ := ep_rf (A := A1) ht4 g6 (by rw [pk_un (by omega), pk_un (by omega)]) (by rw [pk_un (by omega), pk_un (by omega)]) (by rw [pk_un (by omega), pk_un (by omega)])
  generalize hA2 : upd (upd (upd (upd (upd A1 (140 + 20 * t) mx) 10 (nI u)) 0 (A1 0 + 1)) (139 + 20 * t) (A1 (139 + 20 * t) + 1)) 4 (A1 4 + 1) = A2 at E1 F1
  have n2 : ∀ i, ¬ i = 140 + 20 * t → ¬ i = 10 → ¬ i = 0 → ¬ i = 139 + 20 * t → ¬ i = 4 → A2 i = A1 i := fun i m1 m2 m3 m4 m5 => by rw [← hA2, pk_un m5, pk_un m4, pk_un m3, pk_un m2, pk_un m1]
  have nwf : ∀ i, (i = 140 + 20 * t ∨ i = 10 ∨ i = 0 ∨ i = 139 + 20 * t ∨ i = 4 ∨ i = 3) → ¬ wfp i := fun i hi y => by
    unfold wfp at y
    rcases y with y | y | y | ⟨v, y⟩ <;> omega
  have W2 : WF A2 W D1 RS1 TP1 ST1 := by
    rw [← hA2]
    exact ((((g7.sk (nwf _ (by omega))).sk (nwf _ (by omega))).sk (nwf _ (by omega))).sk (nwf _ (by omega))).sk (nwf _ (by omega))
  have st1 : ∀ v, v < 4 → Sx al σ1 r ST1 v := fun v hv => by
    by_cases c : v = t
    · rw [c]
      exact Or.inl g14
    · have e : σ1.1 (r + 5 + 5 * v) 1 = σ.1 (r + 5 + 5 * v) 1 := g11 _ _ (fun y => by
        unfold sXc sX sRm at y
        rcases y with ((y | y | y | y | ⟨w, y⟩) | ⟨w, y⟩) | y | y <;> omega)
      have := hSt v hv
      unfold Sx at this ⊢
      rw [e, (g15 v c).2]
      exact this
  have st2 : ∀ v, v < 4 → Sx al (epD r (r + 5 + 5 * t) (nI u) σ1) r ST1 v := fun v hv => by
    have := st1 v hv
    unfold Sx at this ⊢
    rw [E3.2 _ _ (fun y => by unfold sEp at y; omega)]
    exact this
  have hK1 : WK τ1 B W n := hK.fr g13 (fun q j y => by unfold sYm sN at y; omega)
  have sl1 : sl = 1 ∨ ∃ t0, ∀ v, v < n → ¬ v = t0 → 2 ≤ ST1 v := by
    rcases hsl with y | ⟨t0, y⟩
    · exact Or.inl y
    · refine Or.inr ⟨t0, fun v hv hv0 => ?_⟩
      have := y v hv hv0
      by_cases c : v = t
      · rw [c] at this
        omega
      · rw [(g15 v c).2]
        exact this
  obtain ⟨P1, P2, x, y, P3, P4, P5, P6, P7, P8⟩ := pr_pass hl hN hn4 ht E2 E1 (by rw [n2 _ (by omega) (by omega) (by omega) (by omega) (by omega), k3]; exact hA3) st2 (hK1.fr F2 (fun q j y => sN_W y)) F1 W2 sl1
  refine ⟨P1, P2, upd (upd A2 4 y) 3 x, D1, RS1, TP1, ST1, T1, M1, ?_, g9, g10, ?_, fun i i1 i2 => ?_, fun v hv => (g15 v hv).2, ?_, fun q hq => ⟨funext fun j => ?_, funext fun j => ?_⟩, ((g13.wk (fun q j z => sYm_a ht4 z)).tr (F2.wk (fun q j z => sN_a z))).tr (P7.wk (fun q j z => sN_a z)), ?_⟩
  · generalize s_X4_passTurn r N (epD r (r + 5 + 5 * t) (nI u) σ1) = σ3 at P3 P4 P5
    generalize (if f_X9_isOver (nI t) (epM t τ1) = 0 then (if (epM t τ1).1 469 4 < (epM t τ1).1 469 5 then epM t τ1 else s_X9_passOn N (epM t τ1)) else s_X9_passOn N (epM t τ1)) = τ3 at P6 P7
    have n3 : ∀ i, ¬ i = 140 + 20 * t → ¬ i = 10 → ¬ i = 0 → ¬ i = 139 + 20 * t → ¬ i = 4 → ¬ i = 3 → upd (upd A2 4 y) 3 x i = A1 i := fun i m1 m2 m3 m4 m5 m6 => by rw [pk_un m6, pk_un m5, n2 i m1 m2 m3 m4 m5]
    have c3 : ∀ q j, ¬ (q = r ∧ (j = 7 ∨ j = 8 ∨ j = 9 ∨ j = 12)) → ¬ (q = r + 5 + 5 * t ∧ (j = 4 ∨ j = 5)) → σ3.1 q j = σ1.1 q j := fun q j m1 m2 => (P5.2 q j (fun z => m1 (by omega))).trans (E3.2 q j (fun z => by unfold sEp at z; omega))
    have c3r : σ3.2 = σ1.2 := P5.1.trans E3.1
    have f3 : rfr sN τ1 τ3 := F2.tr P7
    have a10 : upd (upd A2 4 y) 3 x 10 = nI u := by rw [pk_un (by omega), pk_un (by omega), ← hA2, pk_un (by omega), pk_un (by omega), pk_un (by omega), pk_us]
    have cells : ∀ v, v < 4 → ¬ v = t → ∀ q j, ((r + 6 + 5 * v ≤ q ∧ q < r + 6 + 5 * v + 4) ∨ q < r ∨ r + 25 ≤ q) → σ3.1 q j = σ.1 q j := fun v hv hvt q j hq => by
      obtain ⟨z1, z2, z3⟩ := cells_no (j := j) hv ht4 hvt hq
      rw [c3 q j z1 z2]
      exact g11 q j z3
    have ptr : ∀ v, ¬ v = t → σ3.2 (r + 6 + 5 * v) 4 = σ.2 (r + 6 + 5 * v) 4 := fun v hvt => by
      rw [c3r]
      exact g12 _ _ (by omega)
    refine ⟨⟨hl, hq1⟩, P4, P3, ?_, fun v hv hv1 => ?_, ?_, P6, ?_, ?_, ?_, ?_, ?_, fun v hv => ?_, fun v hv => ?_, fun v hv hv1 => ?_, fun v hv hv0 => ?_, fun hm v hv => ?_, fun hm hal v hv hv2 => ?_, sl1, fun hm v hv => ?_⟩
    · exact g4.eq (c3 _ _ (by omega) (by omega)) (c3 _ _ (by omega) (by omega)) (fun j => c3 _ _ (by omega) (by omega)) (fun i hi => n3 i (by omega) (by omega) (by omega) (by omega) (by omega) (by omega))
    · rw [c3 _ _ (by omega) (by omega)]
      exact g5 v hv hv1
    · exact hK1.fr f3 (fun q j z => sN_W z)
    · exact (W2.sk (nwf _ (by omega))).sk (nwf _ (by omega))
    · right
      refine ⟨u, uW, a10, ?_⟩
      have hW12 := g7.1
      rw [n3 _ (by omega) (by omega) (by omega) (by omega) (by omega) (by omega)]
      rcases g8 with z | z
      · exact Or.inl z
      · exact Or.inr ⟨t, ht4, z⟩
    · rw [a10, P5.2 _ _ (by omega)]
      exact E4
    · refine PK.eq ((hP.rf g13 (fun q j z => by unfold sYm sN at z; omega)).rf f3 (fun q j z => by unfold sN at z; omega)) (fun q j m1 m2 => ?_)
      obtain ⟨z1, z2, z3⟩ := prog_no (j := j) ht4 hq1 m1 m2
      rw [c3 q j z1 z2]
      exact g11 q j z3
    · rw [pk_us, pk_un (by omega), pk_us]
      exact P8
    · by_cases c : v = t
      · subst c
        obtain ⟨mo, q1', q2', q3', q4'⟩ := hmo v hv
        obtain ⟨-, -, wD, wD6, -⟩ := g7.2.1 v hv
        have e140 : A1 (140 + 20 * v) = nI mo := (g17 _ (Or.inr (Or.inr ⟨v, hv, by omega⟩))).trans q3'
        have ex : upd (upd A2 4 y) 3 x (140 + 20 * v) = mx := by rw [pk_un (by omega), pk_un (by omega), ← hA2, pk_un (by omega), pk_un (by omega), pk_un (by omega), pk_un (by omega), pk_us]
        have ne0 : ¬ ST1 v = 0 := by
          rcases g16 with z | z
          · have := z.1
            omega
          · have := z.1
            omega
        rw [ex, ← hmx, e140, wD]
        unfold mxI
        by_cases cc : mo < D1 v
        · rw [if_pos (nI_lt cc (by omega))]
          exact ⟨D1 v, wD6, Nat.le_refl _, rfl, fun z => absurd z ne0⟩
        · rw [if_neg (nI_nlt (by omega) (by omega))]
          exact ⟨mo, q1', by omega, rfl, fun z => absurd z ne0⟩
      · obtain ⟨mo, q1', q2', q3', q4'⟩ := hmo v hv
        refine ⟨mo, q1', by rw [(g15 v c).1]; exact q2', ?_, by rw [(g15 v c).2]; exact q4'⟩
        rw [n3 _ (by omega) (by omega) (by omega) (by omega) (by omega) (by omega), g17 _ (Or.inr (Or.inr ⟨v, hv, by omega⟩))]
        exact q3'
    · have := st2 v hv
      unfold Sx at this ⊢
      rw [P5.2 _ _ (by omega)]
      exact this
    · by_cases c : v = t
      · subst c
        rw [cu_s]
        rcases g16 with ⟨-, z1, z2, z3, z4⟩ | z
        · refine ⟨z1, z2, z3.fr z2.1.2 (tyC_h hw6 z2) f3 (fun j w => by unfold sN at w; omega), z4.eq (fun q j hq => c3 q j (by omega) (by omega)) (by rw [c3r])⟩
        · have := z.1
          omega
      · rw [(g15 v c).2] at hv1
        obtain ⟨z1, z2, z3, z4⟩ := hc1 v hv hv1
        rw [cu_n c]
        refine ⟨by rw [(g15 v c).1]; exact z1, z2, ?_, (z4.eq (cells v hv c) (ptr v c)).up⟩
        refine (z3.fr z2.1.2 (tyC_h hw6 z2) g13 (fun j w => ?_)).fr z2.1.2 (tyC_h hw6 z2) f3 (fun j w => by unfold sN at w; omega)
        unfold sYm sN at w
        omega
    · have c : ¬ v = t := by
        intro z
        subst z
        rcases g16 with w | w
        · have := w.1
          omega
        · have := w.1
          omega
      rw [(g15 v c).2] at hv0
      obtain ⟨z1, z2⟩ := hc0 v hv hv0
      refine ⟨?_, (z2.eq (cells v (by omega) c) (ptr v c)).up⟩
      rw [f3.2 _ _ (fun w => by unfold sN at w; omega), g13.2 _ _ (fun w => by unfold sYm sN at w; omega)]
      exact z1
    · by_cases c : v = t
      · subst c
        rw [c3r]
        rcases g16 with ⟨-, -, -, -, z4⟩ | z
        · rcases z4 with w | w
          · exact w.2.2
          · exact absurd (hm.symm.trans w.1) (by decide)
        · exact z.2.2.1 hm
      · rw [ptr v c]
        exact hpt hm v hv
    · by_cases c : v = t
      · subst c
        rcases g16 with z | z
        · have := z.1
          omega
        · rw [c3 _ _ (by omega) (by omega), n3 _ (by omega) (by omega) (by omega) (by omega) (by omega) (by omega)]
          exact z.2.1 hv2 hm
      · rw [(g15 v c).2] at hv2
        rw [cells v hv c _ _ (by omega), n3 _ (by omega) (by omega) (by omega) (by omega) (by omega) (by omega), g17 _ (Or.inr (Or.inr ⟨v, hv, by omega⟩))]
        exact hou hm hal v hv hv2
    · by_cases c : v = t
      · subst c
        rw [c3 _ _ (by omega) (by omega)]
        rcases g16 with ⟨-, -, z2, -, z4⟩ | z
        · rcases z4 with w | w
          · exact ⟨_, tyC_h6 hw6 z2, w.2.1.2.2.1⟩
          · exact absurd (hm.symm.trans w.1) (by decide)
        · exact z.2.2.2.1 hm
      · rw [cells v hv c _ _ (by omega)]
        exact hwt hm v hv
  · rw [pk_un (by omega), pk_un (by omega), ← hA2, pk_un (by omega), pk_un (by omega), pk_us, k0]
  · rw [pk_un (by omega), pk_un (by omega), n2 _ (by omega) (by omega) (by omega) (by omega) (by omega)]
    exact g17 i (Or.inr (Or.inl (by omega)))
  · rcases g16 with ⟨z0, -, z2, -, -⟩ | z
    · exact Or.inl ⟨z0, z2.1⟩
    · exact Or.inr z.2.2.2.2
  · obtain ⟨z1, z2, z3⟩ := out_no (j := j) ht4 hq
    rw [P5.2 q j (fun z => z1 (by omega)), E3.2 q j (fun z => by unfold sEp at z; omega)]
    exact g11 q j z3
  · rw [P5.1, E3.1]
    exact g12 q j (by omega)
  · rw [P5.2 _ _ (by omega), E3.2 _ _ (fun z => by unfold sEp at z; omega)]
    exact g14
