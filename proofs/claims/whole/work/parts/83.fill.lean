/-! windows are filled again -/
theorem bhd_to : ∀ W, W < 13 → 2 ≤ W → ∀ p, p < W → bhd (nI W) (nI p) (-(nI W)) = nI p := by decide +kernel
theorem rf_bk {τ : zS} {B W n p f : Nat} (h : WK τ B W n) (hW : 2 ≤ W ∧ W ≤ 12) (hp : p < W) (hf : f ≤ W) : f_X9_behind (nI p) (-(nI f)) τ = nI (wat W p f) ∧ p_X9_behind (nI p) (-(nI f)) τ := by
  obtain ⟨-, -, b⟩ := rf_behind h hW hp
  by_cases c : f < W
  · exact b f c
  · have e : f = W := by omega
    subst e
    have e2 : wat f p f = p := by
      unfold wat
      rw [if_neg (by omega)]
      omega
    rw [e2]
    obtain ⟨e1, -⟩ := f9_win h.1 h.2.1 h.2.2.1
    refine ⟨?_, (b 0 (by omega)).2.1, ?_, fun _ => (b 0 (by omega)).2.1⟩
    · unfold f_X9_behind
      rw [e1]
      exact bhd_to f (by omega) hW.1 p hp
    · rw [e1]
      exact nI_ne0 (by omega) (by omega)
theorem wat_s {W p f : Nat} (hp : p < W) (hf : f < W) : wat W (wat W p f) 1 = wat W p (f + 1) := by
  unfold wat
  split <;> split <;> split <;> omega
def enC (r t : Nat) (cnt : Nat) (σ : zS) : zS := zuI (zuI σ (r + 5 + 5 * t) 11 ((σ.1 (r + 5 + 5 * t) 11) + nI cnt)) (r + 5 + 5 * t) 9 (((zuI σ (r + 5 + 5 * t) 11 ((σ.1 (r + 5 + 5 * t) 11) + nI cnt)).1 (r + 5 + 5 * t) 9) + 1)
def enM (t cnt : Nat) (τ : zS) : zS := zuI (zuI τ 469 (138 + 20 * t) (nI cnt)) 469 (146 + 20 * t) (((zuI τ 469 (138 + 20 * t) (nI cnt)).1 469 (146 + 20 * t)) + nI cnt)
theorem CRel.any {sl al r i : Nat} {x : Int32} {σ : zS} {A : Nat → Int32} (h : CRel sl al σ r A) (hk : ∀ a k, ¬ Lk sl al r a k i) : CRel sl al σ r (upd A i x) := fun a k j hj => (h a k j hj).trans (pk_un (fun z => hk a k (by rw [← z]; exact hj))).symm
theorem lk_no {sl al r i : Nat} (h : i = 1 ∨ i = 2 ∨ i = 11 ∨ (36 ≤ i ∧ i < 137) ∨ 216 ≤ i ∨ ∃ t, t < 4 ∧ (i = 136 + 20 * t ∨ (147 + 20 * t ≤ i ∧ i < 156 + 20 * t))) : ∀ a k, ¬ Lk sl al r a k i := by
  intro a k z
  unfold Lk at z
  rcases h with h | h | h | h | h | ⟨t, h⟩ <;> rcases z with z | z | z | ⟨u, z⟩ | ⟨u, z⟩ <;> omega
theorem pr_fill_loop {sl al r t w k d W n N B : Nat} {y0 : Int32} {TP ST D : Nat → Nat} (hl : Rly r) (ht : t < 4) (hw : w < W) (hk : 1 ≤ k ∧ k ≤ 16) (hd : 1 ≤ d ∧ d ≤ 60) (hTP : TP t = w) (hDt : D t = d) : ∀ (m j : Nat) (σ τ : zS) (A : Nat → Int32) (RS : Nat → Nat), j + m = 13 → 1 ≤ j → RS t = j → CSt σ r W n → CRel sl al σ r A → WK τ B W n → MRel τ (upd (upd A (138 + 20 * t) (nI 1)) (144 + 20 * t) y0) → WF A W D RS TP ST → ∀ z x, m < z → m < x → ∃ (cnt : Nat) (σ1 τ1 : zS) (A1 : Nat → Int32), l_X4_fill r N z (nI t) (nI w) (r + 5 + 5 * t) (nI k) (nI j) (nI (wat W w j)) σ = s_X4_noteTrap r 1 (nI t) (nI cnt) (nI t) (enC r t cnt σ1) ∧ (p_X4_noteTrap r 1 (nI t) (nI cnt) (nI t) (enC r t cnt σ1) → q_X4_fill r N z (nI t) (nI w) (r + 5 + 5 * t) (nI k) (nI j) (nI (wat W w j)) σ) ∧ l_X9_fill N x (nI t) (nI w) (nI (if k ≤ d then k else d)) (nI j) τ = s_X9_tellTrap 1 (nI t) (nI cnt) (nI t) N (enM t cnt τ1) ∧ (p_X9_tellTrap 1 (nI t) (nI cnt) (nI t) N (enM t cnt τ1) → q_X9_fill N x (nI t) (nI w) (nI (if k ≤ d then k else d)) (nI j) τ) ∧ CSt σ1 r W n ∧ CRel sl al σ1 r A1 ∧ rfr (sW r t) σ σ1 ∧ MRel τ1 (upd (upd A1 (138 + 20 * t) (nI 1)) (144 + 20 * t) y0) ∧ rfr sN τ τ1 ∧ WF A1 W D (fu RS t cnt) TP ST ∧ (1 ≤ cnt ∧ cnt ≤ W ∧ cnt ≤ d) ∧ ∀ i, ¬ (12 ≤ i ∧ i < 36) → ¬ i = 138 + 20 * t → A1 i = A i := by
  intro m
  induction m with
  | zero =>
    intro j σ τ A RS hj h1 hR hs hC hK hM h
    have := (h.lim ht).1
    have := h.1
    omega
  | succ m ih =>
    intro j σ τ A RS hj h1 hR hs hC hK hM h z x hz hx0
    obtain ⟨z, rfl⟩ : ∃ y, z = y + 1 := ⟨z - 1, by omega⟩
    obtain ⟨x, rfl⟩ : ∃ y, x = y + 1 := ⟨x - 1, by omega⟩
    have hW := h.1
    have hRW := (h.lim ht).1
    obtain ⟨-, -, wD, -, wR, wRD, -, -, wT, -⟩ := h.2.1 t ht
    have wT := (wT (by omega)).1
    rw [hR] at wR wRD hRW
    rw [hDt] at wD wRD
    rw [hTP] at wT
    have eD : σ.1 (r + 5 + 5 * t + 1) 0 = nI d := by rw [show r + 5 + 5 * t + 1 = r + 6 + 5 * t by omega, hC _ _ _ (lk_d ht), wD]
    have eR : σ.1 (r + 5 + 5 * t) 2 = nI j := by rw [hC _ _ _ (lk_r ht), wR]
    have hx : wat W w j < W := by
      by_cases c : j < W
      · exact wat_lt hw c
      · have : j = W := by omega
        unfold wat
        rw [if_neg (by omega)]
        omega
    have eO : f_X8_at 12 (r + 1) (nI (wat W w j)) σ = A (12 + wat W w j) := by rw [at_i (by omega) (by decide), hC _ _ _ (lk_o (by omega))]
    obtain ⟨eb, pb⟩ := rf_bk hK hW hw hRW
    obtain ⟨fr1, fr2⟩ := rf_free (τ := τ) (w := wat W w j) (by omega)
    rw [hM _ (by omega), pk_un (by omega), pk_un (by omega)] at fr1
    have i2 : (f_X9_atTask (nI t) 2).toNatClampNeg = 138 + 20 * t := by rw [at_2, nI_clamp (by omega)]; omega
    have i10 : (f_X9_atTask (nI t) 10).toNatClampNeg = 146 + 20 * t := by rw [at_10, nI_clamp (by omega)]; omega
    have v2 : vp_in (f_X9_atTask (nI t) 2) 14241 := by rw [at_2]; exact vp_in_nI (by omega) (by decide)
    have v10 : vp_in (f_X9_atTask (nI t) 10) 14241 := by rw [at_10]; exact vp_in_nI (by omega) (by decide)
    have mE : u_X9_fill_h0_2 N (nI t) (nI w) (nI (if k ≤ d then k else d)) (nI j) τ = enM t j τ := by
      unfold u_X9_fill_h0_2 u_X9_fill_h0_1 enM
      rw [i2, i10]
    have mE2 : u_X9_fill_h0_5 N (nI t) (nI w) (nI (if k ≤ d then k else d)) (nI j) τ = enM t j τ := by
      unfold u_X9_fill_h0_5 u_X9_fill_h0_4 enM
      rw [i2, i10]
    have efu : fu RS t j = RS := by
      funext s
      unfold fu
      by_cases c : s = t
      · rw [if_pos c, c, hR]
      · rw [if_neg c]
    have mEnd : u_X9_fill_h0_3 N (nI t) (nI w) (nI (if k ≤ d then k else d)) (nI j) τ = s_X9_tellTrap 1 (nI t) (nI j) (nI t) N (enM t j τ) := by
      unfold u_X9_fill_h0_3
      rw [mE]
    have mEnd2 : u_X9_fill_h0_6 N (nI t) (nI w) (nI (if k ≤ d then k else d)) (nI j) τ = s_X9_tellTrap 1 (nI t) (nI j) (nI t) N (enM t j τ) := by
      unfold u_X9_fill_h0_6
      rw [mE2]
    have cst : k ≤ j ∨ d ≤ j ∨ ¬ A (12 + wat W w j) = -1 → ∃ (cnt : Nat) (σ1 τ1 : zS) (A1 : Nat → Int32), l_X4_fill r N (z + 1) (nI t) (nI w) (r + 5 + 5 * t) (nI k) (nI j) (nI (wat W w j)) σ = s_X4_noteTrap r 1 (nI t) (nI cnt) (nI t) (enC r t cnt σ1) ∧ (p_X4_noteTrap r 1 (nI t) (nI cnt) (nI t) (enC r t cnt σ1) → q_X4_fill r N (z + 1) (nI t) (nI w) (r + 5 + 5 * t) (nI k) (nI j) (nI (wat W w j)) σ) ∧ l_X9_fill N (x + 1) (nI t) (nI w) (nI (if k ≤ d then k else d)) (nI j) τ = s_X9_tellTrap 1 (nI t) (nI cnt) (nI t) N (enM t cnt τ1) ∧ (p_X9_tellTrap 1 (nI t) (nI cnt) (nI t) N (enM t cnt τ1) → q_X9_fill N (x + 1) (nI t) (nI w) (nI (if k ≤ d then k else d)) (nI j) τ) ∧ CSt σ1 r W n ∧ CRel sl al σ1 r A1 ∧ rfr (sW r t) σ σ1 ∧ MRel τ1 (upd (upd A1 (138 + 20 * t) (nI 1)) (144 + 20 * t) y0) ∧ rfr sN τ τ1 ∧ WF A1 W D (fu RS t cnt) TP ST ∧ (1 ≤ cnt ∧ cnt ≤ W ∧ cnt ≤ d) ∧ ∀ i, ¬ (12 ≤ i ∧ i < 36) → ¬ i = 138 + 20 * t → A1 i = A i := by
      intro hst
      refine ⟨j, σ, τ, A, ?_, fun hq => ?_, ?_, fun hq => ?_, hs, hC, rfr.rf, hM, rfr.rf, by rw [efu]; exact h, ⟨h1, hRW, wRD⟩, fun _ _ _ => rfl⟩
      · rw [l_X4_fill]
        by_cases c1 : k ≤ j
        · rw [if_pos (nI_le c1 (by omega))]
          rfl
        · rw [if_neg (nI_ge (by omega) (by omega)), eD, eR]
          by_cases c2 : d ≤ j
          · rw [if_pos (nI_le c2 (by omega))]
            rfl
          · have c3 : ¬ A (12 + wat W w j) = -1 := by
              rcases hst with y | y | y
              · exact absurd y c1
              · exact absurd y c2
              · exact y
            rw [if_neg (nI_ge (by omega) (by omega)), eO, if_neg c3]
            rfl
      · rw [q_X4_fill, eD, eR, eO]
        exact ⟨fun _ => hq, fun c1 => ⟨fun _ => hq, fun c2 => ⟨at_p (by decide), fun _ => hq, fun c3 => by
          rcases hst with y | y | y
          · exact absurd (nI_le y (by omega)) c1
          · exact absurd (nI_le y (by omega)) c2
          · exact absurd c3 y⟩⟩⟩
      · rw [l_X9_fill]
        by_cases c1 : (if k ≤ d then k else d) ≤ j
        · rw [if_pos (nI_le c1 (by omega)), mEnd]
        · have c3 : ¬ A (12 + wat W w j) = -1 := by
            rcases hst with y | y | y
            · exact absurd (show (if k ≤ d then k else d) ≤ j by split <;> omega) c1
            · exact absurd (show (if k ≤ d then k else d) ≤ j by split <;> omega) c1
            · exact y
          rw [if_neg (nI_ge (by omega) (by split <;> omega)), eb, fr1, if_neg c3, if_pos rfl, mEnd2]
      · rw [q_X9_fill, mE, mE2, eb, fr1]
        refine ⟨fun _ => ⟨v2, v10, hq⟩, fun c1 => ⟨pb, fr2, fun _ => ⟨v2, v10, hq⟩, fun c2 => ?_⟩⟩
        have c3 : A (12 + wat W w j) = -1 := by
          apply Classical.byContradiction
          intro y
          rw [if_neg y] at c2
          exact c2 rfl
        rcases hst with y | y | y
        · exact absurd (nI_le (show (if k ≤ d then k else d) ≤ j by split <;> omega) (by omega)) c1
        · exact absurd (nI_le (show (if k ≤ d then k else d) ≤ j by split <;> omega) (by omega)) c1
        · exact absurd c3 y
    by_cases c1 : k ≤ j
    · exact cst (Or.inl c1)
    by_cases c2 : d ≤ j
    · exact cst (Or.inr (Or.inl c2))
    by_cases c3 : A (12 + wat W w j) = -1
    · -- one more
      have hwm := wf_more h ht ⟨by rw [hTP]; exact wT, by rw [hTP]; exact hw⟩ (by rw [hR, hDt]; omega) (by rw [hTP, hR]; exact c3)
      rw [hTP, hR, hDt] at hwm
      obtain ⟨hjW, hwf⟩ := hwm
      obtain ⟨o1, o2, o3, o4⟩ := cl_in (f := nI (d - j)) (w := wat W w j) hl hs hC ht (by omega)
      have eu : u_X4_fill_h0_10 r N (nI t) (nI w) (r + 5 + 5 * t) (nI k) (nI j) (nI (wat W w j)) σ = s_X4_moveIn r (nI t) (nI (d - j)) (nI (wat W w j)) σ := by
        unfold u_X4_fill_h0_10
        rw [eD, eR, pk_sub (by omega)]
      have ea : f_X4_ahead r (nI (wat W w j)) (s_X4_moveIn r (nI t) (nI (d - j)) (nI (wat W w j)) σ) = nI (wat W w (j + 1)) := by
        rw [cl_ahead o3 hW hx, wat_s hw hjW]
      obtain ⟨g1, g2, -⟩ := rf_frm hM ht
      have eF : f_X9_frames (nI t) τ - nI j = nI (d - j) := by
        rw [g1, pk_un (by omega), pk_un (by omega), wD, pk_sub (by omega)]
      obtain ⟨q1, q2, q3⟩ := rf_place (w := wat W w j) (x := nI t) (y := nI (d - j)) hM (by omega)
      have em : u_X9_fill_h0_7 N (nI t) (nI w) (nI (if k ≤ d then k else d)) (nI j) τ = s_X9_place (nI (wat W w j)) (nI t) (nI (d - j)) τ := by
        unfold u_X9_fill_h0_7
        rw [eb, eF]
      have hM' : MRel (s_X9_place (nI (wat W w j)) (nI t) (nI (d - j)) τ) (upd (upd (aIn A t (nI (d - j)) (wat W w j)) (138 + 20 * t) (nI 1)) (144 + 20 * t) y0) := by
        have e : upd (upd (aIn A t (nI (d - j)) (wat W w j)) (138 + 20 * t) (nI 1)) (144 + 20 * t) y0 = upd (upd (upd (upd A (138 + 20 * t) (nI 1)) (144 + 20 * t) y0) (12 + wat W w j) (nI t)) (24 + wat W w j) (nI (d - j)) := by
          unfold aIn
          rw [upd_two, upd_c (i := 24 + wat W w j) (j := 138 + 20 * t) (by omega), upd_c (i := 24 + wat W w j) (j := 144 + 20 * t) (by omega), upd_c (i := 12 + wat W w j) (j := 138 + 20 * t) (by omega), upd_c (i := 12 + wat W w j) (j := 144 + 20 * t) (by omega)]
        rw [e]
        exact q2
      obtain ⟨cnt, σ1, τ1, A1, r1, r2, r3, r4, r5, r6, r7, r8, r9, r10, r11, r12⟩ := ih (j + 1) _ _ _ _ (by omega) (by omega) fu_s o3 o2 (hK.fr q3 (fun q i y => sN_W y)) hM' hwf z x (by omega) (by omega)
      have e2 : fu (fu RS t (j + 1)) t cnt = fu RS t cnt := by
        funext s
        unfold fu
        by_cases c : s = t
        · rw [if_pos c, if_pos c]
        · rw [if_neg c, if_neg c, if_neg c]
      rw [e2] at r10
      refine ⟨cnt, σ1, τ1, A1, ?_, fun hq => ?_, ?_, fun hq => ?_, r5, r6, o4.tr r7, r8, q3.tr r9, r10, r11, fun i n1 n2 => ?_⟩
      · rw [l_X4_fill, if_neg (nI_ge (by omega) (by omega)), eD, eR, if_neg (nI_ge (by omega) (by omega)), eO, if_pos c3, eu, ea, nI_1]
        exact r1
      · rw [q_X4_fill, eD, eR, eO, eu, ea, nI_1, pk_sub (by omega)]
        exact ⟨fun y => absurd y (nI_ge (by omega) (by omega)), fun _ => ⟨fun y => absurd y (nI_ge (by omega) (by omega)), fun _ => ⟨at_p (by decide), fun y => absurd c3 y, fun _ => ⟨o1, r2 hq⟩⟩⟩⟩
      · have c4 : ¬ nI (if k ≤ d then k else d) ≤ nI j := nI_ge (by split <;> omega) (by split <;> omega)
        rw [l_X9_fill, if_neg c4, eb, fr1, if_pos c3, if_neg (by decide), em, nI_1]
        exact r3
      · have c4 : ¬ nI (if k ≤ d then k else d) ≤ nI j := nI_ge (by split <;> omega) (by split <;> omega)
        rw [q_X9_fill, eb, fr1, if_pos c3, em, eF, nI_1]
        exact ⟨fun y => absurd y c4, fun _ => ⟨pb, fr2, fun y => absurd y (by decide), fun _ => ⟨pb, g2, q1, r4 hq⟩⟩⟩
      · rw [r12 i n1 n2]
        unfold aIn
        rw [pk_un n2, pk_un (by omega), pk_un (by omega)]
    · exact cst (Or.inr (Or.inr c3))
theorem fu_e {f : Nat → Nat} {t x : Nat} (h : f t = x) : fu f t x = f := by
  funext s
  unfold fu
  by_cases c : s = t
  · rw [if_pos c, c, h]
  · rw [if_neg c]
theorem gf_com {a : Nat} {x y v : Int32} {σ : zS} : r_X5_guessToFill a x y (zuI σ a 9 v) = ((r_X5_guessToFill a x y σ).1, zuI (r_X5_guessToFill a x y σ).2 a 9 v) := by
  unfold r_X5_guessToFill u_X5_guessToFill_1 u_X5_guessToFill_2 u_X5_guessToFill_3
  rw [gI_n (by omega), gI_n (by omega)]
  by_cases c1 : x = 1
  · rw [if_pos c1, if_pos c1]
  rw [if_neg c1, if_neg c1]
  by_cases c2 : x = 2
  · rw [if_pos c2, if_pos c2, zuI_com (by omega)]
  rw [if_neg c2, if_neg c2]
  by_cases c3 : x = 3
  · rw [if_pos c3, if_pos c3]
    by_cases c4 : 0 ≤ σ.1 a 7
    · rw [if_pos c4, if_pos c4, zuI_com (by omega), gI_n (by omega)]
    · rw [if_neg c4, if_neg c4, zuI_com (by omega), gI_n (by omega)]
  · rw [if_neg c3, if_neg c3]
theorem pr_fill {sl al r t w d W n N B T M : Nat} {σ τ : zS} {A : Nat → Int32} {D RS TP ST : Nat → Nat} {dT dM : Int32} (hl : Rly r) (hN : 500 < N) (hs : CSt σ r W n) (hC : CRel sl al σ r A) (hO : COf al σ r A dT dM T M) (hT : T < 2 ^ 29) (hK : WK τ B W n) (hM : MRel τ A) (h : WF A W D RS TP ST) (ht : t < 4) (hw : w < W) (hD : D t = d) (hd : 1 ≤ d) (hR : RS t = 0) (hf : A (12 + w) = -1) : p_X4_fill r (nI t) (nI w) N σ ∧ p_X9_fill (nI t) (nI w) N τ ∧ ∃ (A' : Nat → Int32) (cnt M' : Nat), CRel sl al (s_X4_fill r (nI t) (nI w) N σ) r A' ∧ CSt (s_X4_fill r (nI t) (nI w) N σ) r W n ∧ COf al (s_X4_fill r (nI t) (nI w) N σ) r A' dT dM (T + 1) M' ∧ rfr (fun q j => sRm r q j ∨ (q = r + 5 + 5 * t ∧ (j = 9 ∨ j = 11))) σ (s_X4_fill r (nI t) (nI w) N σ) ∧ MRel (s_X9_fill (nI t) (nI w) N τ) A' ∧ rfr sN τ (s_X9_fill (nI t) (nI w) N τ) ∧ WF A' W D (fu RS t cnt) (fu TP t w) ST ∧ 1 ≤ cnt ∧ (M ≤ M' ∧ M' ≤ M + 12) ∧ (∀ i, (i = 0 ∨ (3 ≤ i ∧ i ≤ 10) ∨ ∃ u, u < 4 ∧ (i = 136 + 20 * u ∨ i = 137 + 20 * u ∨ i = 139 + 20 * u ∨ i = 140 + 20 * u ∨ i = 147 + 20 * u)) → A' i = A i) := by
  have hW := h.1
  have l9 : Lk sl al r (r + 5 + 5 * t) 9 (144 + 20 * t) := by
    have := lk_t (sl := sl) (al := al) (r := r) (t := t) (k := 9) ht (by omega) (by omega)
    rw [show 135 + 20 * t + 9 = 144 + 20 * t by omega] at this
    exact this
  have l11 : Lk sl al r (r + 5 + 5 * t) 11 (146 + 20 * t) := by
    have := lk_t (sl := sl) (al := al) (r := r) (t := t) (k := 11) ht (by omega) (by omega)
    rw [show 135 + 20 * t + 11 = 146 + 20 * t by omega] at this
    exact this
  generalize hv : A (144 + 20 * t) + 1 = v
  have nw : ¬ wfp (144 + 20 * t) := by
    unfold wfp
    rintro (y | y | y | ⟨u, y⟩) <;> omega
  obtain ⟨k, A1, k1, g1, g2, g3, g4, g5, g6, g7, g8, g9, g10⟩ := ask_under (τ := zuI τ 469 (144 + 20 * t) v) (A := upd A (144 + 20 * t) v) (σ := zuI σ (r + 5 + 5 * t) 9 v) (sl := sl) (al := al) (r := r) (t := t) (W := W) (n := n) (D := D) (RS := RS) (TP := TP) (ST := ST) (hs.uI (by omega)) (hC.up l9) hM.up (h.sk nw) ht
  rw [gI_n (by omega), gI_n (by omega), gf_com] at g1 g2 g3 g4
  have tk := tk_eq hs.2.2 ht
  generalize hg : r_X5_guessToFill (r + 5 + 5 * t) (σ.1 r 2) (σ.1 r 3) σ = G at g1 g2 g3 g4
  obtain ⟨G1, σ1⟩ := G
  have g1 : G1 = nI k := g1
  have g2 : CRel sl al (zuI σ1 (r + 5 + 5 * t) 9 v) r A1 := g2
  have g4 : rfr (sAsk r t) (zuI σ (r + 5 + 5 * t) 9 v) (zuI σ1 (r + 5 + 5 * t) 9 v) := g4
  have s9 : ∀ q j, ¬ sAsk r t q j → ¬ (q = r + 5 + 5 * t ∧ j = 9) → σ1.1 q j = σ.1 q j := fun q j n1 n2 => by
    have := g4.2 q j n1
    rw [gI_n n2, gI_n n2] at this
    exact this
  have s99 : σ1.1 (r + 5 + 5 * t) 9 = A (144 + 20 * t) := by
    have hcase : σ1.1 (r + 5 + 5 * t) 9 = σ.1 (r + 5 + 5 * t) 9 := by
      have e1 : σ1 = (r_X5_guessToFill (r + 5 + 5 * t) (σ.1 r 2) (σ.1 r 3) σ).2 := by rw [hg]
      rw [e1]
      unfold r_X5_guessToFill u_X5_guessToFill_1 u_X5_guessToFill_2 u_X5_guessToFill_3
      split
      · rfl
      split
      · exact gI_n (by omega)
      split
      · split
        · exact gI_n (by omega)
        · exact gI_n (by omega)
      · rfl
    rw [hcase, hC _ _ _ l9]
  have C1 : CRel sl al σ1 r (upd A1 (144 + 20 * t) (A (144 + 20 * t))) := by
    have := g2.up (x := A (144 + 20 * t)) l9
    rw [zuI_two] at this
    have e : zuI σ1 (r + 5 + 5 * t) 9 (A (144 + 20 * t)) = σ1 := by
      refine zext (fun q j => ?_) (fun q j => rfl)
      by_cases c : q = r + 5 + 5 * t ∧ j = 9
      · rw [gI_h c.1 c.2, c.1, c.2, s99]
      · rw [gI_n c]
    rw [e] at this
    exact this
  have S1 : CSt σ1 r W n := ⟨(s9 r 0 (fun y => by unfold sAsk at y; omega) (by omega)).trans hs.1, (s9 r 1 (fun y => by unfold sAsk at y; omega) (by omega)).trans hs.2.1, by
    have := g4.1
    have e : σ1.2 = σ.2 := this
    rw [e]
    exact hs.2.2⟩
  have F1 : rfr (sAsk r t) σ σ1 := ⟨g4.1, fun q j n1 => by
    by_cases c : q = r + 5 + 5 * t ∧ j = 9
    · rw [c.1, c.2, s99, hC _ _ _ l9]
    · exact s9 q j n1 c⟩
  generalize hB : upd A1 (144 + 20 * t) (A (144 + 20 * t)) = Bc at C1
  have bn : ∀ i, ¬ i = 141 + 20 * t → ¬ i = 142 + 20 * t → Bc i = A i := fun i n1 n2 => by
    rw [← hB]
    by_cases c : i = 144 + 20 * t
    · rw [c, pk_us]
    · rw [pk_un c, g10 i n1 n2, pk_un c]
  have eA1 : A1 = upd Bc (144 + 20 * t) v := by
    rw [← hB, upd_two]
    exact (upd_same ((g10 _ (by omega) (by omega)).trans pk_us)).symm
  have WB : WF Bc W D RS TP ST := by
    rw [← hB]
    exact g9.sk nw
  obtain ⟨w1, -, wD, wD6, wR, -, -, wS, -⟩ := WB.2.1 t ht
  rw [hR] at wR
  rw [hD] at wD wD6 wS
  have hST : ST t = 1 := wS.mpr hd
  have fB : Bc (12 + w) = -1 := (bn _ (by omega) (by omega)).trans hf
  -- the first one comes
  have nA : ∀ i, ¬ i = 12 + w → ¬ i = 24 + w → ¬ i = 138 + 20 * t → ¬ i = 148 + 20 * t → aIn (upd Bc (148 + 20 * t) (nI w)) t (nI d) w i = Bc i := fun i n1 n2 n3 n4 => by
    unfold aIn
    rw [pk_un n3, pk_un n2, pk_un n1, pk_un n4]
  have WC : WF (aIn (upd Bc (148 + 20 * t) (nI w)) t (nI d) w) W D (fu RS t 1) (fu TP t w) ST := by
    have := wf_come (A1 := aIn (upd Bc (148 + 20 * t) (nI w)) t (nI d) w) (d := d) WB ht hR ⟨hd, wD6⟩ hw fB (fun i _ n1 n2 n3 n4 n5 n6 => nA i n5 n6 n3 n4) (by rw [nA _ (by omega) (by omega) (by omega) (by omega), w1, hST]) (by rw [nA _ (by omega) (by omega) (by omega) (by omega), wD]) (by
      unfold aIn
      rw [pk_us, pk_un (by omega), wR]
      rfl) (by
      unfold aIn
      rw [pk_un (by omega), pk_un (by omega), pk_un (by omega), pk_us]) (by
      unfold aIn
      rw [pk_un (by omega), pk_un (by omega), pk_us]) (by
      unfold aIn
      rw [pk_un (by omega), pk_us])
    rw [fu_e hD, fu_e hST] at this
    exact this
  have C2 : CRel sl al σ1 r (upd Bc (148 + 20 * t) (nI w)) := C1.any (lk_no (by
    right; right; right; right; right
    exact ⟨t, ht, by omega⟩))
  obtain ⟨o1, o2, o3, o4⟩ := cl_in (f := nI d) (w := w) hl S1 C2 ht (by omega)
  have eD1 : σ1.1 (r + 5 + 5 * t + 1) 0 = nI d := by rw [show r + 5 + 5 * t + 1 = r + 6 + 5 * t by omega, C1 _ _ _ (lk_d ht), wD]
  have eR1 : σ1.1 (r + 5 + 5 * t) 2 = nI 0 := by rw [C1 _ _ _ (lk_r ht), wR]
  have eO1 : f_X8_at 12 (r + 1) (nI w) σ1 = -1 := by rw [at_i (by omega) (by decide), C1 _ _ _ (lk_o (by omega)), fB]
  have eu : ∀ x, u_X4_fill_h0_10 r N (nI t) x (r + 5 + 5 * t) (nI k) 0 (nI w) σ1 = s_X4_moveIn r (nI t) (nI d) (nI w) σ1 := fun x => by
    unfold u_X4_fill_h0_10
    rw [eD1, eR1, pk_sub (by omega)]
    rfl
  have ea : f_X4_ahead r (nI w) (s_X4_moveIn r (nI t) (nI d) (nI w) σ1) = nI (wat W w 1) := cl_ahead o3 hW hw
  -- the reference comes
  obtain ⟨τ1, hτ1⟩ : ∃ x, x = (r_X9_askUnder (nI t) (zuI τ 469 (144 + 20 * t) v)).2 := ⟨_, rfl⟩
  rw [← hτ1] at g7 g8
  have i12 : (f_X9_atTask (nI t) 12).toNatClampNeg = 148 + 20 * t := by rw [at_12, nI_clamp (by omega)]; omega
  have i2 : (f_X9_atTask (nI t) 2).toNatClampNeg = 138 + 20 * t := by rw [at_2, nI_clamp (by omega)]; omega
  have M2 : MRel (zuI (zuI τ1 469 (148 + 20 * t) (nI w)) 469 (138 + 20 * t) 1) (upd (upd A1 (148 + 20 * t) (nI w)) (138 + 20 * t) 1) := g7.up.up
  obtain ⟨fr1, fr2, -⟩ := rf_frm M2 ht
  have eF : f_X9_frames (nI t) (zuI (zuI τ1 469 (148 + 20 * t) (nI w)) 469 (138 + 20 * t) 1) = nI d := by rw [fr1, pk_un (by omega), pk_un (by omega), eA1, pk_un (by omega), wD]
  obtain ⟨q1, q2, q3⟩ := rf_place (w := w) (x := nI t) (y := nI d) M2 (by omega)
  have ec : s_X9_come (nI t) (nI w) τ1 = s_X9_place (nI w) (nI t) (nI d) (zuI (zuI τ1 469 (148 + 20 * t) (nI w)) 469 (138 + 20 * t) 1) := by
    unfold s_X9_come u_X9_come_3 u_X9_come_2 u_X9_come_1
    rw [i12, i2, eF]
  have pcm : p_X9_come (nI t) (nI w) τ1 := by
    unfold p_X9_come u_X9_come_2 u_X9_come_1
    rw [i12, i2, eF]
    refine ⟨?_, ?_, fr2, q1⟩
    · rw [at_12]
      exact vp_in_nI (by omega) (by decide)
    · rw [at_2]
      exact vp_in_nI (by omega) (by decide)
  have M3 : MRel (s_X9_come (nI t) (nI w) τ1) (upd (upd (aIn (upd Bc (148 + 20 * t) (nI w)) t (nI d) w) (138 + 20 * t) (nI 1)) (144 + 20 * t) v) := by
    have e : upd (upd (aIn (upd Bc (148 + 20 * t) (nI w)) t (nI d) w) (138 + 20 * t) (nI 1)) (144 + 20 * t) v = upd (upd (upd (upd A1 (148 + 20 * t) (nI w)) (138 + 20 * t) 1) (12 + w) (nI t)) (24 + w) (nI d) := by
      unfold aIn
      rw [eA1, upd_two, upd_c (i := 24 + w) (j := 138 + 20 * t) (by omega), upd_c (i := 24 + w) (j := 144 + 20 * t) (by omega), upd_c (i := 12 + w) (j := 138 + 20 * t) (by omega), upd_c (i := 12 + w) (j := 144 + 20 * t) (by omega), upd_c (i := 138 + 20 * t) (j := 144 + 20 * t) (by omega), upd_c (i := 148 + 20 * t) (j := 144 + 20 * t) (by omega)]
      rfl
    rw [e, ec]
    exact q2
  have F3 : rfr sN τ (s_X9_come (nI t) (nI w) τ1) := by
    rw [ec]
    exact (((rfr.rf.uI (show sN _ _ from ⟨rfl, by omega⟩)).tr g8).uI (show sN _ _ from ⟨rfl, by omega⟩)).uI (show sN _ _ from ⟨rfl, by omega⟩) |>.tr q3
  -- the loop
  obtain ⟨cnt, σ2, τ2, A2, r1, r2, r3, r4, r5, r6, r7, r8, r9, r10, r11, r12⟩ := pr_fill_loop (sl := sl) (al := al) (N := N) (k := k) (d := d) (w := w) (y0 := v) hl ht hw k1 ⟨hd, wD6⟩ fu_s hD 12 1 _ _ _ _ rfl (Nat.le_refl _) fu_s o3 o2 (hK.fr F3 (fun q j y => sN_W y)) M3 WC (N - 1) N (by omega) (by omega)
  have eN : N = N - 1 + 1 := by omega
  have k0 : ¬ nI k ≤ 0 := nI_nle (by omega) (by omega)
  have d0 : ¬ nI d ≤ nI 0 := nI_ge (by omega) (by omega)
  have es : s_X4_fill r (nI t) (nI w) N σ = s_X4_noteTrap r 1 (nI t) (nI cnt) (nI t) (enC r t cnt σ2) := by
    unfold s_X4_fill u_X4_fill_1
    rw [tk, hg]
    show l_X4_fill r N N (nI t) (nI w) (r + 5 + 5 * t) G1 0 (nI w) σ1 = _
    rw [g1]
    conv => lhs; rw [show l_X4_fill r N N (nI t) (nI w) (r + 5 + 5 * t) (nI k) 0 (nI w) σ1 = l_X4_fill r N (N - 1 + 1) (nI t) (nI w) (r + 5 + 5 * t) (nI k) 0 (nI w) σ1 from by rw [← eN]]
    rw [l_X4_fill, if_neg k0, eD1, eR1, if_neg d0, eO1, if_pos rfl, eu, ea]
    exact r1
  have a144 : A2 (144 + 20 * t) + 1 = v := by
    rw [r12 _ (by omega) (by omega), nA _ (by omega) (by omega) (by omega) (by omega), bn _ (by omega) (by omega)]
    exact hv
  have n2 : ∀ i, ¬ (12 ≤ i ∧ i < 36) → ¬ i = 138 + 20 * t → ¬ i = 148 + 20 * t → ¬ i = 141 + 20 * t → ¬ i = 142 + 20 * t → A2 i = A i := fun i n1 n2 n3 n4 n5 => by
    rw [r12 i n1 n2, nA i (by omega) (by omega) n2 n3, bn i n4 n5]
  have eC : enC r t cnt σ2 = zuI (zuI σ2 (r + 5 + 5 * t) 11 (A2 (146 + 20 * t) + nI cnt)) (r + 5 + 5 * t) 9 v := by
    unfold enC
    rw [r6 _ _ _ l11, gI_n (by omega), r6 _ _ _ l9, a144]
  have C4 : CRel sl al (enC r t cnt σ2) r (upd (upd A2 (146 + 20 * t) (A2 (146 + 20 * t) + nI cnt)) (144 + 20 * t) v) := by
    rw [eC]
    exact (r6.up l11).up l9
  have S4 : CSt (enC r t cnt σ2) r W n := by
    rw [eC]
    exact (r5.uI (by omega)).uI (by omega)
  generalize hA4 : upd (upd A2 (146 + 20 * t) (A2 (146 + 20 * t) + nI cnt)) (144 + 20 * t) v = A4 at C4
  have n4 : ∀ i, ¬ i = 146 + 20 * t → ¬ i = 144 + 20 * t → A4 i = A2 i := fun i n1 n2 => by
    rw [← hA4, pk_un n2, pk_un n1]
  have F4 : rfr (fun q j => sRm r q j ∨ (q = r + 5 + 5 * t ∧ (j = 9 ∨ j = 11))) σ (enC r t cnt σ2) := by
    have hW1 : ∀ q j, sW r t q j → sRm r q j := fun q j y => by
      unfold sW at y
      rcases y with y | y
      · unfold sRm
        omega
      · exact Or.inr (Or.inr (Or.inr (Or.inr ⟨t, ht, y.1, by omega⟩)))
    rw [eC]
    refine rfr.uI (rfr.uI ((F1.wk (fun q j y => ?_)).tr ((o4.tr r7).wk (fun q j y => Or.inl (hW1 q j y)))) (Or.inr ⟨rfl, Or.inr rfl⟩)) (Or.inr ⟨rfl, Or.inl rfl⟩)
    unfold sAsk at y
    exact Or.inl (Or.inr (Or.inr (Or.inr (Or.inr ⟨t, ht, y.1, by omega⟩))))
  have cells : ∀ q j, (q = r ∧ (j = 10 ∨ j = 11)) ∨ q = r + 3 → (enC r t cnt σ2).1 q j = σ.1 q j := fun q j y => by
    rw [eC, gI_n (by omega), gI_n (by omega), r7.2 q j (fun z => by unfold sW at z; omega), o4.2 q j (fun z => by unfold sW at z; omega)]
    exact F1.2 q j (fun z => by unfold sAsk at z; omega)
  have O4 : COf al (enC r t cnt σ2) r A4 dT dM T M := by
    refine hO.eq (cells _ _ (by omega)) (cells _ _ (by omega)) (fun j => cells _ _ (by omega)) (fun i hi => ?_)
    rw [n4 _ (by omega) (by omega), n2 _ (by omega) (by omega) (by omega) (by omega) (by omega)]
  obtain ⟨t1, t2, t3, t4, t5⟩ := cl_trap (kd := 1) (t := nI t) (o := nI t) (m := cnt) S4 C4 O4 (by omega)
  -- the reference: the end
  have aR : A2 (138 + 20 * t) = nI cnt := by
    have := (r10.2.1 t ht).2.2.2.2.1
    rw [fu_s] at this
    exact this
  have M4 : MRel (enM t cnt τ2) A4 := by
    have e : A4 = upd (upd (upd (upd A2 (138 + 20 * t) (nI 1)) (144 + 20 * t) v) (138 + 20 * t) (nI cnt)) (146 + 20 * t) (A2 (146 + 20 * t) + nI cnt) := by
      rw [← hA4, upd_c (i := 138 + 20 * t) (j := 144 + 20 * t) (by omega), upd_two, upd_c (i := 144 + 20 * t) (j := 138 + 20 * t) (by omega), upd_same aR, upd_c (by omega)]
    have e2 : enM t cnt τ2 = zuI (zuI τ2 469 (138 + 20 * t) (nI cnt)) 469 (146 + 20 * t) (A2 (146 + 20 * t) + nI cnt) := by
      unfold enM
      rw [gI_n (by omega), r8 _ (by omega), pk_un (by omega), pk_un (by omega)]
    rw [e, e2]
    exact r8.up.up
  have F5 : rfr sN τ2 (enM t cnt τ2) := (rfr.rf.uI (show sN _ _ from ⟨rfl, by omega⟩)).uI (show sN _ _ from ⟨rfl, by omega⟩)
  obtain ⟨b1, b2, b3⟩ := rf_trap (N := N) (kd := 1) (t := nI t) (m := nI cnt) (o := nI t) (by omega) M4
  have i8 : (f_X9_atTask (nI t) 8).toNatClampNeg = 144 + 20 * t := by rw [at_8, nI_clamp (by omega)]; omega
  have u1 : u_X9_fill_1 (nI t) (nI w) N τ = zuI τ 469 (144 + 20 * t) v := by
    unfold u_X9_fill_1
    rw [i8, hM _ (by omega), hv]
  have u2 : u_X9_fill_2 (nI t) (nI w) N τ = τ1 := by
    unfold u_X9_fill_2
    rw [u1, hτ1]
  have u3 : u_X9_fill_3 (nI t) (nI w) N τ = s_X9_come (nI t) (nI w) τ1 := by
    unfold u_X9_fill_3
    rw [u2]
  obtain ⟨x1, x2, -⟩ := rf_frm g7 ht
  have eFr : f_X9_frames (nI t) τ1 = nI d := by rw [x1, eA1, pk_un (by omega), wD]
  have em : f_X9_less (nI k) (nI d) = nI (if k ≤ d then k else d) := by
    unfold f_X9_less
    by_cases c : k ≤ d
    · rw [if_pos c]
      by_cases c1 : k = d
      · rw [c1, if_pos (nI_le (Nat.le_refl _) (by omega))]
      · rw [if_neg (nI_ge (by omega) (by omega))]
    · rw [if_neg c, if_pos (nI_le (by omega) (by omega))]
  have et : s_X9_fill (nI t) (nI w) N τ = s_X9_tellTrap 1 (nI t) (nI cnt) (nI t) N (enM t cnt τ2) := by
    unfold s_X9_fill
    rw [u3, u2, u1, eFr, g6, em]
    exact r3
  refine ⟨?_, ?_, aTrap A4 1 (nI t) (nI cnt) (nI t), cnt, M + cnt, ?_⟩
  · unfold p_X4_fill u_X4_fill_1
    rw [tk, hg]
    refine ⟨tk_p hl hs.2.2 ht, ?_⟩
    show q_X4_fill r N N (nI t) (nI w) (r + 5 + 5 * t) G1 0 (nI w) σ1
    rw [g1, show q_X4_fill r N N (nI t) (nI w) (r + 5 + 5 * t) (nI k) 0 (nI w) σ1 = q_X4_fill r N (N - 1 + 1) (nI t) (nI w) (r + 5 + 5 * t) (nI k) 0 (nI w) σ1 from by rw [← eN], q_X4_fill, eD1, eR1, eO1, eu, ea, pk_sub (by omega)]
    exact ⟨fun y => absurd y k0, fun _ => ⟨fun y => absurd y d0, fun _ => ⟨at_p (by decide), fun y => absurd rfl y, fun _ => ⟨o1, r2 t1⟩⟩⟩⟩
  · unfold p_X9_fill
    rw [u3, u2, u1, eFr, g6, em]
    refine ⟨?_, g5, x2, pcm, r4 b1⟩
    rw [at_8]
    exact vp_in_nI (by omega) (by decide)
  · rw [es, et]
    have e3 : fu (fu RS t 1) t cnt = fu RS t cnt := by
      funext s
      unfold fu
      by_cases c : s = t
      · rw [if_pos c, if_pos c]
      · rw [if_neg c, if_neg c, if_neg c]
    rw [e3] at r10
    refine ⟨t2, t4, t3, F4.tr (t5.wk (fun q j y => ?_)), b2, ((F3.tr r9).tr F5).tr b3, ?_, r11.1, by omega, fun i hi => ?_⟩
    · unfold sT at y
      left
      unfold sRm
      omega
    · apply wf_trap
      rw [← hA4]
      refine (r10.sk ?_).sk nw
      unfold wfp
      rintro (y | y | y | ⟨u, y⟩) <;> omega
    · have hi2 : ¬ (i = 1 ∨ i = 2 ∨ i = 11 ∨ (36 ≤ i ∧ i < 136)) ∧ ¬ i = 146 + 20 * t ∧ ¬ i = 144 + 20 * t ∧ ¬ (12 ≤ i ∧ i < 36) ∧ ¬ i = 138 + 20 * t ∧ ¬ i = 148 + 20 * t ∧ ¬ i = 141 + 20 * t ∧ ¬ i = 142 + 20 * t := by
        rcases hi with y | y | ⟨u, y⟩ <;> omega
      rw [aTrap_n hi2.1, n4 _ hi2.2.1 hi2.2.2.1, n2 _ hi2.2.2.2.1 hi2.2.2.2.2.1 hi2.2.2.2.2.2.1 hi2.2.2.2.2.2.2.1 hi2.2.2.2.2.2.2.2]
