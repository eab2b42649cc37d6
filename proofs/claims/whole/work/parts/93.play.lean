/-! an event on both sides; events one behind another -/
theorem gE1 {t N z : Nat} {τ : zS} (ht : t < 4) : l_X9_goEvent N (z + 1 + 1) 1 (nI t) τ = (if f_X9_isOver (nI t) (epM t τ) = 0 then (if (epM t τ).1 469 4 < (epM t τ).1 469 5 then epM t τ else s_X9_passOn N (epM t τ)) else s_X9_passOn N (epM t τ)) ∧ (p_X9_isOver (nI t) (epM t τ) ∧ p_X9_passOn N (epM t τ) → q_X9_goEvent N (z + 1 + 1) 1 (nI t) τ) := by
  have i3 : (f_X9_atTask (nI t) 3).toNatClampNeg = 139 + 20 * t := by rw [at_3, nI_clamp (by omega)]; omega
  have eu : u_X9_goEvent_h1_3 N (nI t) τ = epM t τ := by
    unfold u_X9_goEvent_h1_3 u_X9_goEvent_h1_2 u_X9_goEvent_h1_1 epM
    rw [i3]
  have l2 : ∀ τ', l_X9_goEvent N (z + 1) 2 (nI t) τ' = s_X9_passOn N τ' := fun τ' => by
    rw [l_X9_goEvent]
    rfl
  refine ⟨?_, fun h => ?_⟩
  · rw [l_X9_goEvent, eu, l2]
  · rw [q_X9_goEvent, eu]
    have q2 : q_X9_goEvent N (z + 1) 2 (nI t) (epM t τ) := by
      rw [q_X9_goEvent]
      exact h.2
    refine ⟨?_, h.1, fun _ => q2, fun _ _ => q2⟩
    rw [at_3]
    exact vp_in_nI (by omega) (by decide)
theorem gE0 {t N z : Nat} {τ : zS} : l_X9_goEvent N (z + 1) 0 (nI t) τ = l_X9_goEvent N z 1 (nI t) (gM (nI t) N τ) ∧ (gMP (nI t) N τ → q_X9_goEvent N z 1 (nI t) (gM (nI t) N τ) → q_X9_goEvent N (z + 1) 0 (nI t) τ) := by
  unfold gM gMP
  refine ⟨?_, fun h1 h2 => ?_⟩
  · rw [l_X9_goEvent]
    unfold u_X9_goEvent_h0_3 u_X9_goEvent_h0_2 u_X9_goEvent_h0_1
    by_cases c : (r_X9_goOn (nI t) N τ).1 = 0
    · rw [if_pos c, if_pos c]
    · rw [if_neg c, if_neg c]
  · rw [q_X9_goEvent]
    unfold u_X9_goEvent_h0_3 u_X9_goEvent_h0_2 u_X9_goEvent_h0_1
    refine ⟨h1.1, fun c => ⟨h1.2.1 c, ?_⟩, fun c => ⟨h1.2.2 c, ?_⟩⟩
    · rw [if_pos c] at h2
      exact h2
    · rw [if_neg c] at h2
      exact h2
def nxC (K : aK) (tf : Nat → Nat) (gv : Nat → Nat → Int32) (ST : Nat → Nat) (C : Nat → aC) (t : Nat) : aC := if ST t = 0 then aBegin K (tf t) (gv t) else aStp K (C t)
theorem pr_event {m sl al r q1 t B W n N L F e T M : Nat} {K : aK} {H tf D RS TP ST : Nat → Nat} {gv : Nat → Nat → Int32} {dT dM : Int32} {σ τ : zS} {A : Nat → Int32} {C : Nat → aC} (h : RX m sl al r q1 B W n K L F H tf gv dT dM e T M σ τ A D RS TP ST C) (hN : 500 < N) (hT : T < 2 ^ 27) (ht : t < n) (hA3 : A 3 = nI t) (hST : ST t ≤ 1) (he : m = 1 → e < 3000) : p_X4_takeEvent r q1 N σ ∧ p_X9_goEvent N τ ∧ ∃ (A' : Nat → Int32) (D' RS' TP' ST' : Nat → Nat) (T' M' : Nat), RX m sl al r q1 B W n K L F H tf gv dT dM (e + 1) T' M' (s_X4_takeEvent r q1 N σ) (s_X9_goEvent N τ) A' D' RS' TP' ST' (cu C t (nxC K tf gv ST C t)) ∧ (T ≤ T' ∧ T' ≤ T + 4) ∧ (M ≤ M' ∧ M' ≤ M + 37) ∧ A' 0 = A 0 + 1 ∧ (∀ i, 5 ≤ i → i ≤ 9 → A' i = A i) ∧ (∀ v, ¬ v = t → ST' v = ST v) ∧ ((ST' t = 1 ∧ 1 ≤ (nxC K tf gv ST C t).1 ∧ (nxC K tf gv ST C t).1 ≤ 60) ∨ ((nxC K tf gv ST C t).1 = 0 ∧ ST' t = 2) ∨ ((nxC K tf gv ST C t).1 = 61 ∧ ST' t = 3)) ∧ zfr r (r + 25) σ (s_X4_takeEvent r q1 N σ) ∧ rfr sYa τ (s_X9_goEvent N τ) ∧ (s_X4_takeEvent r q1 N σ).1 (r + 5 + 5 * t) 1 = nI (ST' t) := by
  have hx := h
  obtain ⟨⟨hl, hq1⟩, hs, hC, hO, h3, hK, hM, hW, hu, hU, hP, hTu, hmo, hSt, hc1, hc0, hpt, hou, hsl, hwt⟩ := h
  have hn4 := hP.2.2.2.1
  have ht4 : t < 4 := by omega
  have c7 : σ.1 r 7 = nI t := (hC r 7 3 (lk_g (by omega))).trans hA3
  have m3 : τ.1 469 3 = nI t := (hM 3 (by omega)).trans hA3
  have tk := tk_eq hs.2.2 ht4
  have s1 : σ.1 (r + 5 + 5 * t) 1 = nI (ST t) := by
    rcases hSt t ht4 with y | y
    · exact y
    · have := y.2.2
      omega
  obtain ⟨w1, -, wD, -⟩ := hW.2.1 t ht4
  obtain ⟨-, -, e3, e4, e5, e6⟩ := rf_frm hM ht4
  obtain ⟨N1, hN1⟩ : ∃ z, N = z + 1 + 1 + 1 := ⟨N - 3, by omega⟩
  by_cases c0 : ST t = 0
  · -- it begins
    rw [show nxC K tf gv ST C t = aBegin K (tf t) (gv t) from if_pos c0]
    obtain ⟨z1, z2⟩ := hc0 t ht c0
    have hm0 : A (140 + 20 * t) = 0 := by
      obtain ⟨mo, -, -, q3, q4⟩ := hmo t ht4
      rw [q3, q4 c0]
      rfl
    obtain ⟨b1, b2, b3⟩ := ev_begin (N := N) (m := m) (e := e) hl hq1 hN hs hC hO (by omega) h3 hK hM hW hu hU hP ht c0 hm0 z1 z2
    have b3' := b3.pre (RS := RS) (TP := TP) (x := 2) (y := 13) ⟨Nat.le_refl _, by omega⟩ ⟨Nat.le_refl _, by omega⟩ (fun _ _ _ => rfl) (fun _ _ _ => rfl) rfr.rf (fun _ _ => rfl)
    obtain ⟨f1, f2, f3⟩ := ev_fin hx hN ht hA3 hST b3'
    have k0 : σ.1 (r + 5 + 5 * t) 1 = 0 := by rw [s1, c0]; rfl
    have es : s_X4_takeEvent r q1 N σ = s_X4_passTurn r N (epD r (r + 5 + 5 * t) (r_X4_beginTask r q1 (nI t) N σ).1 (r_X4_beginTask r q1 (nI t) N σ).2) := by
      unfold s_X4_takeEvent u_X4_takeEvent_14 u_X4_takeEvent_13 u_X4_takeEvent_12 u_X4_takeEvent_11 u_X4_takeEvent_10 u_X4_takeEvent_9 u_X4_takeEvent_8 epD epC epB epA
      rw [c7, tk, if_pos k0]
    have ep : u_X4_takeEvent_13 r q1 N σ = epD r (r + 5 + 5 * t) (r_X4_beginTask r q1 (nI t) N σ).1 (r_X4_beginTask r q1 (nI t) N σ).2 := by
      unfold u_X4_takeEvent_13 u_X4_takeEvent_12 u_X4_takeEvent_11 u_X4_takeEvent_10 u_X4_takeEvent_9 u_X4_takeEvent_8 epD epC epB epA
      rw [c7, tk]
    have g0 : f_X9_state (nI t) τ = 0 := by rw [e5, w1, c0]; rfl
    obtain ⟨g1, g2⟩ := gE1 (N := N) (z := N1 + 1) (τ := s_X9_doBegin (nI t) N τ) ht4
    rw [← hN1] at g1 g2
    have et : s_X9_goEvent N τ = l_X9_goEvent N N 1 (nI t) (s_X9_doBegin (nI t) N τ) := by
      unfold s_X9_goEvent u_X9_goEvent_2
      rw [m3, if_pos g0]
    rw [es, et, g1]
    refine ⟨?_, ?_, f3⟩
    · unfold p_X4_takeEvent
      rw [ep, c7, tk]
      exact ⟨tk_p hl hs.2.2 ht4, fun y => absurd k0 y, fun _ => ⟨b1, f1⟩⟩
    · unfold p_X9_goEvent u_X9_goEvent_2
      rw [m3]
      exact ⟨e6, fun y => absurd g0 y, fun _ => ⟨b2, g2 f2⟩⟩
  · -- it goes on
    have c1 : ST t = 1 := by omega
    rw [show nxC K tf gv ST C t = aStp K (C t) from if_neg c0]
    obtain ⟨z1, z2, z3, z4⟩ := hc1 t ht4 c1
    have k0 : ¬ σ.1 (r + 5 + 5 * t) 1 = 0 := by rw [s1, c1]; decide
    have k1 : σ.1 (r + 5 + 5 * t) 1 = 1 := by rw [s1, c1]; rfl
    have hm1 : ∃ mo, mo ≤ 60 ∧ (C t).1 ≤ mo ∧ A (140 + 20 * t) = nI mo := by
      obtain ⟨mo, q1', q2', q3', -⟩ := hmo t ht4
      exact ⟨mo, q1', by rw [z1]; exact q2', q3'⟩
    obtain ⟨b1, b2, b3, b4⟩ := ev_go (N := N) (m := m) (e := e) hl hq1 hN hs hC hO hT h3 hK hM hW hu hU hP ht4 z1.symm z2 z4 he z3 k1 hm1
    obtain ⟨f1, f2, f3⟩ := ev_fin hx hN ht hA3 hST b4
    have es : s_X4_takeEvent r q1 N σ = s_X4_passTurn r N (epD r (r + 5 + 5 * t) (r_X4_goOn r q1 (nI t) N σ).1 (r_X4_goOn r q1 (nI t) N σ).2) := by
      unfold s_X4_takeEvent u_X4_takeEvent_7 u_X4_takeEvent_6 u_X4_takeEvent_5 u_X4_takeEvent_4 u_X4_takeEvent_3 u_X4_takeEvent_2 u_X4_takeEvent_1 epD epC epB epA
      rw [c7, tk, if_neg k0]
    have ep : u_X4_takeEvent_6 r q1 N σ = epD r (r + 5 + 5 * t) (r_X4_goOn r q1 (nI t) N σ).1 (r_X4_goOn r q1 (nI t) N σ).2 := by
      unfold u_X4_takeEvent_6 u_X4_takeEvent_5 u_X4_takeEvent_4 u_X4_takeEvent_3 u_X4_takeEvent_2 u_X4_takeEvent_1 epD epC epB epA
      rw [c7, tk]
    have g0 : ¬ f_X9_state (nI t) τ = 0 := by rw [e5, w1, c1]; decide
    have pc : p_X4_takeEvent r q1 N σ := by
      unfold p_X4_takeEvent
      rw [ep, c7, tk]
      exact ⟨tk_p hl hs.2.2 ht4, fun _ => ⟨b1, f1⟩, fun y => absurd y k0⟩
    by_cases cR : A (138 + 20 * t) = 0
    · rw [if_pos cR] at f2 f3
      obtain ⟨g1, g2⟩ := gE1 (N := N) (z := N1) (τ := gM (nI t) N (s_X9_comeBack (nI t) N τ)) ht4
      obtain ⟨g3, g4⟩ := gE0 (N := N) (t := t) (z := N1 + 1 + 1) (τ := s_X9_comeBack (nI t) N τ)
      rw [← hN1] at g3 g4
      have et : s_X9_goEvent N τ = l_X9_goEvent N N 0 (nI t) (s_X9_comeBack (nI t) N τ) := by
        unfold s_X9_goEvent u_X9_goEvent_1
        rw [m3, if_neg g0, e3, if_pos cR]
      rw [es, et, g3, g1]
      refine ⟨pc, ?_, f3⟩
      unfold p_X9_goEvent u_X9_goEvent_1
      rw [m3, e3]
      exact ⟨e6, fun _ => ⟨e4, fun y => absurd cR y, fun _ => ⟨(b2 cR).1, g4 (b2 cR).2 (g2 f2)⟩⟩, fun y => absurd y g0⟩
    · rw [if_neg cR] at f2 f3
      obtain ⟨g1, g2⟩ := gE1 (N := N) (z := N1) (τ := gM (nI t) N τ) ht4
      obtain ⟨g3, g4⟩ := gE0 (N := N) (t := t) (z := N1 + 1 + 1) (τ := τ)
      rw [← hN1] at g3 g4
      have et : s_X9_goEvent N τ = l_X9_goEvent N N 0 (nI t) τ := by
        unfold s_X9_goEvent
        rw [m3, if_neg g0, e3, if_neg cR]
      rw [es, et, g3, g1]
      refine ⟨pc, ?_, f3⟩
      unfold p_X9_goEvent
      rw [m3, e3]
      exact ⟨e6, fun _ => ⟨e4, fun _ => g4 (b3 cR) (g2 f2), fun y => absurd y cR⟩, fun y => absurd y g0⟩
/-- events one behind another: playOn and goEvents -/
theorem pr_play {m sl al r q1 B W n N L F : Nat} {K : aK} {H tf : Nat → Nat} {gv : Nat → Nat → Int32} {dT dM : Int32} (hN : 500 < N) : ∀ (z k j e T M : Nat) (σ τ : zS) (A : Nat → Int32) (D RS TP ST : Nat → Nat) (C : Nat → aC), RX m sl al r q1 B W n K L F H tf gv dT dM e T M σ τ A D RS TP ST C → j + z = k → k ≤ 3000 → T + 4 * z < 2 ^ 27 → (m = 1 → e + z ≤ 3000) → ∀ y x, z < y → z < x → q_X4_playOn r q1 N y (nI k) (nI j) σ ∧ q_X9_goEvents N x (nI k) (nI j) τ ∧ (l_X4_playOn r q1 N y (nI k) (nI j) σ).1 = (l_X9_goEvents N x (nI k) (nI j) τ).1 ∧ ∃ (i : Nat) (A' : Nat → Int32) (D' RS' TP' ST' : Nat → Nat) (C' : Nat → aC) (T' M' : Nat), i ≤ z ∧ RX m sl al r q1 B W n K L F H tf gv dT dM (e + i) T' M' (l_X4_playOn r q1 N y (nI k) (nI j) σ).2 (l_X9_goEvents N x (nI k) (nI j) τ).2 A' D' RS' TP' ST' C' ∧ (l_X9_goEvents N x (nI k) (nI j) τ).1 = nI (j + i) ∧ (T ≤ T' ∧ T' ≤ T + 4 * i) ∧ (M ≤ M' ∧ M' ≤ M + 37 * i) ∧ A' 0 = A 0 + nI i ∧ (∀ v, 5 ≤ v → v ≤ 9 → A' v = A v) ∧ (i < z → A' 3 = -1) ∧ zfr r (r + 25) σ (l_X4_playOn r q1 N y (nI k) (nI j) σ).2 ∧ rfr sYa τ (l_X9_goEvents N x (nI k) (nI j) τ).2 ∧ (∀ v, n ≤ v → ST' v = ST v) := by
  intro z
  induction z with
  | zero =>
    intro k j e T M σ τ A D RS TP ST C h hj hk hT he y x hy hx
    obtain ⟨y, rfl⟩ : ∃ q, y = q + 1 := ⟨y - 1, by omega⟩
    obtain ⟨x, rfl⟩ : ∃ q, x = q + 1 := ⟨x - 1, by omega⟩
    have c : nI k ≤ nI j := nI_le (by omega) (by omega)
    rw [q_X4_playOn, q_X9_goEvents, l_X4_playOn, l_X9_goEvents, if_pos c, if_pos c]
    refine ⟨fun q => absurd c q, fun q => absurd c q, rfl, 0, A, D, RS, TP, ST, C, T, M, Nat.le_refl _, h, rfl, by omega, by omega, ?_, fun _ _ _ => rfl, fun q => absurd q (by omega), zfr.rf, rfr.rf, fun _ _ => rfl⟩
    show A 0 = A 0 + 0
    simp
  | succ z ih =>
    intro k j e T M σ τ A D RS TP ST C h hj hk hT he y x hy hx
    obtain ⟨y, rfl⟩ : ∃ q, y = q + 1 := ⟨y - 1, by omega⟩
    obtain ⟨x, rfl⟩ : ∃ q, x = q + 1 := ⟨x - 1, by omega⟩
    have c : ¬ nI k ≤ nI j := nI_ge (by omega) (by omega)
    have hh := h
    obtain ⟨-, hs, hC, -, -, -, hM, -, -, -, hP, hTu, -⟩ := h
    have c7 : σ.1 r 7 = A 3 := hC r 7 3 (lk_g (by omega))
    have m3 : τ.1 469 3 = A 3 := hM 3 (by omega)
    rw [q_X4_playOn, q_X9_goEvents, l_X4_playOn, l_X9_goEvents, if_neg c, if_neg c, c7, m3]
    rcases hTu with ⟨ht, -⟩ | ⟨t, ht, h3, hS⟩
    · have c1 : (-1 : Int32) < 0 := by decide
      rw [ht, if_pos rfl, if_pos c1]
      refine ⟨fun _ q => absurd rfl q, fun _ q => absurd c1 q, rfl, 0, A, D, RS, TP, ST, C, T, M, Nat.zero_le _, hh, rfl, by omega, by omega, ?_, fun _ _ _ => rfl, fun _ => ht, zfr.rf, rfr.rf, fun _ _ => rfl⟩
      show A 0 = A 0 + 0
      simp
    · have hn4 := hP.2.2.2.1
      have c1 : ¬ nI t < 0 := nI_pos (by omega)
      have c2 : ¬ nI t = -1 := m1_ne (by omega)
      rw [h3, if_neg c2, if_neg c1, nI_1]
      obtain ⟨p1, p2, A1, D1, RS1, TP1, ST1, T1, M1, g1, g2, g3, g4, g5, g6, -, g8, g9, -⟩ := pr_event hh hN (by omega) ht h3 hS (fun q => by have := he q; omega)
      obtain ⟨i1, i2, i3, i, A2, D2, RS2, TP2, ST2, C2, T2, M2, j1, j2, j3, j4, j5, j6, j7, j8, j9, j10, j11⟩ := ih k (j + 1) (e + 1) T1 M1 _ _ A1 D1 RS1 TP1 ST1 _ g1 (by omega) hk (by omega) (fun q => by have := he q; omega) y x (by omega) (by omega)
      refine ⟨fun _ _ => ⟨p1, i1⟩, fun _ _ => ⟨p2, i2⟩, i3, i + 1, A2, D2, RS2, TP2, ST2, C2, T2, M2, by omega, ?_, ?_, by omega, by omega, ?_, fun v v1 v2 => (j7 v v1 v2).trans (g5 v v1 v2), fun q => j8 (by omega), g8.tr j9, g9.tr j10, fun v hv => (j11 v hv).trans (g6 v (by omega))⟩
      · rw [show e + (i + 1) = e + 1 + i by omega]
        exact j2
      · rw [show j + (i + 1) = j + 1 + i by omega]
        exact j3
      · rw [j6, g4, Int32.add_assoc, show (1 : Int32) + nI i = nI (i + 1) by rw [(show (1 : Int32) = nI 1 from rfl), nI_add, Nat.add_comm]]
