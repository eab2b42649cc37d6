/-! a task fails -/
def cntO (A : Nat → Int32) (t : Nat) : Nat → Nat
  | 0 => 0
  | w + 1 => cntO A t w + (if A (12 + w) = nI t then 1 else 0)
theorem cnt_0 {A : Nat → Int32} {t : Nat} : ∀ k : Nat, (∀ w, w < k → ¬ A (12 + w) = nI t) → cntO A t k = 0
  | 0, _ => rfl
  | k + 1, h => by rw [cntO, cnt_0 k (fun w hw => h w (by omega)), if_neg (h k (by omega))]
theorem cnt_eq {A A1 : Nat → Int32} {t : Nat} : ∀ k : Nat, (∀ w, w < k → A1 (12 + w) = A (12 + w)) → cntO A1 t k = cntO A t k
  | 0, _ => rfl
  | k + 1, h => by rw [cntO, cntO, cnt_eq k (fun w hw => h w (by omega)), h k (by omega)]
theorem cnt_1 {A A1 : Nat → Int32} {t x : Nat} (h1 : A (12 + x) = nI t) (h2 : ¬ A1 (12 + x) = nI t) (h3 : ∀ w, ¬ w = x → w < 12 → A1 (12 + w) = A (12 + w)) : ∀ k : Nat, k ≤ 12 → x < k → cntO A t k = cntO A1 t k + 1
  | 0, _, h => absurd h (by omega)
  | k + 1, hk, h => by
    rw [cntO, cntO]
    by_cases c : x = k
    · rw [← c, if_pos h1, if_neg h2, cnt_eq (A1 := A1) (A := A) x (fun w hw => h3 w (by omega) (by omega))]
    · rw [cnt_1 h1 h2 h3 k (by omega) (by omega), h3 k (fun z => c z.symm) (by omega)]
      omega
theorem cnt_rs {W t : Nat} {D TP ST : Nat → Nat} (ht : t < 4) : ∀ (m : Nat) (A : Nat → Int32) (RS : Nat → Nat), RS t = m → WF A W D RS TP ST → cntO A t W = m := by
  intro m
  induction m with
  | zero =>
    intro A RS hR h
    apply cnt_0
    intro w hw z
    rcases h.2.2.1.1 w hw with y | ⟨u, f, y1, y2, y3, -⟩
    · rw [y] at z
      exact m1_ne ht z.symm
    · rw [y3] at z
      have : u = t := (nI_eq (by omega) (by omega)).mp z
      rw [this, hR] at y2
      omega
  | succ m ih =>
    intro A RS hR h
    have hW := h.1
    obtain ⟨hRW, hTP⟩ := h.lim ht
    have hTP := hTP (by omega)
    have hx : wat W (TP t) (RS t - 1) < W := wat_lt hTP (by omega)
    have h1 := wf_spill h ht (by omega)
    have h2 := ih _ _ (by rw [fu_s]; omega) h1
    rw [cnt_1 (A1 := aOut A t (wat W (TP t) (RS t - 1))) (h.2.2.1.2 t (RS t - 1) ht (by omega)).1 (by
      unfold aOut
      rw [pk_un (by omega), pk_un (by omega), pk_us]
      exact fun z => m1_ne ht z.symm) (fun w n1 n2 => aOut_n (by omega) (by omega) (by omega)) W (by omega) hx, h2]
theorem cnt_le {A : Nat → Int32} {t : Nat} : ∀ (j k : Nat), j ≤ k → cntO A t j ≤ cntO A t k := by
  intro j k
  induction k with
  | zero =>
    intro h
    rw [show j = 0 by omega]
    exact Nat.le_refl _
  | succ k ih =>
    intro h
    by_cases c : j = k + 1
    · rw [c]
      exact Nat.le_refl _
    · have := ih (by omega)
      rw [cntO]
      omega
def aFl (A : Nat → Int32) (t R j : Nat) : Nat → Int32 := fun i => if 12 ≤ i ∧ i < 12 + j ∧ A i = nI t then -1 else if 24 ≤ i ∧ i < 24 + j ∧ A (i - 12) = nI t then -1 else if i = 138 + 20 * t then nI (R - cntO A t j) else A i
theorem aFl_n {A : Nat → Int32} {t R j i : Nat} (hj : j ≤ 12) (h1 : ¬ (12 ≤ i ∧ i < 36)) (h2 : ¬ i = 138 + 20 * t) : aFl A t R j i = A i := by
  unfold aFl
  rw [if_neg (by omega), if_neg (by omega), if_neg h2]
theorem aFl_0 {A : Nat → Int32} {t R : Nat} (h : A (138 + 20 * t) = nI R) : aFl A t R 0 = A := by
  funext i
  unfold aFl
  rw [if_neg (by omega), if_neg (by omega)]
  by_cases c : i = 138 + 20 * t
  · rw [if_pos c, c, h]
    rfl
  · rw [if_neg c]
theorem aFl_w {A : Nat → Int32} {t R j w : Nat} (hw : w < 12) : aFl A t R j (12 + w) = if w < j ∧ A (12 + w) = nI t then -1 else A (12 + w) := by
  unfold aFl
  by_cases c : w < j ∧ A (12 + w) = nI t
  · rw [if_pos ⟨by omega, by omega, c.2⟩, if_pos c]
  · rw [if_neg (fun z => c ⟨by omega, z.2.2⟩), if_neg (by omega), if_neg (by omega), if_neg c]
theorem aFl_s {A : Nat → Int32} {t R j : Nat} (hj : j < 12) (h : ¬ A (12 + j) = nI t) : aFl A t R (j + 1) = aFl A t R j := by
  funext i
  unfold aFl
  have ec : cntO A t (j + 1) = cntO A t j := by rw [cntO, if_neg h]; rfl
  by_cases c1 : 12 ≤ i ∧ i < 12 + j ∧ A i = nI t
  · rw [if_pos c1, if_pos ⟨c1.1, by omega, c1.2.2⟩]
  · have c1' : ¬ (12 ≤ i ∧ i < 12 + (j + 1) ∧ A i = nI t) := by
      intro z
      by_cases y : i = 12 + j
      · exact h (by rw [← y]; exact z.2.2)
      · exact c1 ⟨z.1, by omega, z.2.2⟩
    rw [if_neg c1, if_neg c1']
    by_cases c2 : 24 ≤ i ∧ i < 24 + j ∧ A (i - 12) = nI t
    · rw [if_pos c2, if_pos ⟨c2.1, by omega, c2.2.2⟩]
    · have c2' : ¬ (24 ≤ i ∧ i < 24 + (j + 1) ∧ A (i - 12) = nI t) := by
        intro z
        by_cases y : i = 24 + j
        · exact h (by rw [show 12 + j = i - 12 by omega]; exact z.2.2)
        · exact c2 ⟨z.1, by omega, z.2.2⟩
      rw [if_neg c2, if_neg c2', ec]
theorem aFl_t {A : Nat → Int32} {t R j : Nat} (hj : j < 12) (h : A (12 + j) = nI t) (hR : cntO A t j + 1 ≤ R) : aFl A t R (j + 1) = aOut (aFl A t R j) t j := by
  funext i
  have e138 : aFl A t R j (138 + 20 * t) = nI (R - cntO A t j) := by
    unfold aFl
    rw [if_neg (by omega), if_neg (by omega), if_pos rfl]
  have ec : cntO A t (j + 1) = cntO A t j + 1 := by rw [cntO, if_pos h]
  unfold aOut
  by_cases c : i = 138 + 20 * t
  · rw [c, pk_us, e138, nI_s1 (by omega)]
    unfold aFl
    rw [if_neg (by omega), if_neg (by omega), if_pos rfl, ec]
    congr 1
  · rw [pk_un c]
    by_cases c1 : i = 24 + j
    · rw [c1, pk_us]
      unfold aFl
      rw [if_neg (by omega), if_pos ⟨by omega, by omega, by rw [show 24 + j - 12 = 12 + j by omega]; exact h⟩]
    · rw [pk_un c1]
      by_cases c2 : i = 12 + j
      · rw [c2, pk_us]
        unfold aFl
        rw [if_pos ⟨by omega, by omega, h⟩]
      · rw [pk_un c2]
        unfold aFl
        have q1 : (12 ≤ i ∧ i < 12 + (j + 1) ∧ A i = nI t) ↔ (12 ≤ i ∧ i < 12 + j ∧ A i = nI t) := ⟨fun z => ⟨z.1, by omega, z.2.2⟩, fun z => ⟨z.1, by omega, z.2.2⟩⟩
        have q2 : (24 ≤ i ∧ i < 24 + (j + 1) ∧ A (i - 12) = nI t) ↔ (24 ≤ i ∧ i < 24 + j ∧ A (i - 12) = nI t) := ⟨fun z => ⟨z.1, by omega, z.2.2⟩, fun z => ⟨z.1, by omega, z.2.2⟩⟩
        simp only [q1, q2, if_neg c]
theorem pr_fail_loop {sl al r t W n N B R : Nat} {v2 y0 : Int32} {A : Nat → Int32} (hl : Rly r) (ht : t < 4) (hW : 2 ≤ W ∧ W ≤ 12) (hR : cntO A t W = R) : ∀ (m j : Nat) (σ τ : zS), j + m = W → CSt σ r W n → CRel sl al σ r (aFl A t R j) → WK τ B W n → MRel τ (upd (upd (aFl A t R j) (138 + 20 * t) (nI R)) 10 y0) → ∀ z, m < z → ∃ (σ1 τ1 : zS), l_X4_fail r N z (nI t) v2 (nI j) σ = (v2, u_X4_fail_h0_2 r N (nI t) v2 (nI W) σ1) ∧ q_X4_fail r N z (nI t) v2 (nI j) σ ∧ l_X9_doFail N z (nI t) (nI j) τ = u_X9_doFail_h0_3 N (nI t) (nI W) τ1 ∧ q_X9_doFail N z (nI t) (nI j) τ ∧ CSt σ1 r W n ∧ CRel sl al σ1 r (aFl A t R W) ∧ rfr (sW r t) σ σ1 ∧ MRel τ1 (upd (upd (aFl A t R W) (138 + 20 * t) (nI R)) 10 y0) ∧ rfr sN τ τ1 := by
  intro m
  induction m with
  | zero =>
    intro j σ τ hj hs hC hK hM z hz
    obtain ⟨z, rfl⟩ : ∃ y, z = y + 1 := ⟨z - 1, by omega⟩
    have e : j = W := by omega
    subst e
    have c : nI j ≤ nI j := nI_le (Nat.le_refl _) (by omega)
    obtain ⟨e1, e2⟩ := f9_win hK.1 hK.2.1 hK.2.2.1
    refine ⟨σ, τ, ?_, ?_, ?_, ?_, hs, hC, rfr.rf, hM, rfr.rf⟩
    · rw [l_X4_fail, hs.1, if_pos c]
    · rw [q_X4_fail, hs.1]
      exact ⟨fun _ => tk_p hl hs.2.2 ht, fun y => absurd c y⟩
    · rw [l_X9_doFail, e1, if_pos c]
    · rw [q_X9_doFail, e1, at_0, at_1, at_2]
      exact ⟨e2, fun _ => ⟨vp_in_nI (by omega) (by decide), vp_in_nI (by omega) (by decide), vp_in_nI (by omega) (by decide)⟩, fun y => absurd c y⟩
  | succ m ih =>
    intro j σ τ hj hs hC hK hM z hz
    obtain ⟨z, rfl⟩ : ∃ y, z = y + 1 := ⟨z - 1, by omega⟩
    have c : ¬ nI W ≤ nI j := nI_ge (by omega) (by omega)
    obtain ⟨e1, e2⟩ := f9_win hK.1 hK.2.1 hK.2.2.1
    have ew : aFl A t R j (12 + j) = A (12 + j) := by rw [aFl_w (by omega), if_neg (by omega)]
    have eO : f_X8_at 12 (r + 1) (nI j) σ = A (12 + j) := by rw [at_i (by omega) (by decide), hC _ _ _ (lk_o (by omega)), ew]
    have e12 : (12 : Int32) + nI j = nI (12 + j) := by rw [(show (12 : Int32) = nI 12 from rfl), nI_add]
    have eM : τ.1 469 ((12 : Int32) + nI j).toNatClampNeg = A (12 + j) := by rw [e12, nI_clamp (by omega), hM _ (by omega), pk_un (by omega), pk_un (by omega), ew]
    have v12 : vp_in ((12 : Int32) + nI j) 14241 := by rw [e12]; exact vp_in_nI (by omega) (by decide)
    by_cases c1 : A (12 + j) = nI t
    · obtain ⟨o1, o2, o3, o4⟩ := cl_out (w := j) hl hs hC ht (by omega)
      obtain ⟨q1, q2, q3⟩ := rf_place (w := j) (x := -1) (y := -1) hM (by omega)
      have hc : cntO A t j + 1 ≤ R := by
        have := cnt_le (A := A) (t := t) (j + 1) W (by omega)
        rw [cntO, if_pos c1] at this
        omega
      have ef := aFl_t (R := R) (show j < 12 by omega) c1 hc
      rw [← ef] at o2
      have hM' : MRel (s_X9_place (nI j) (-1) (-1) τ) (upd (upd (aFl A t R (j + 1)) (138 + 20 * t) (nI R)) 10 y0) := by
        rw [ef]
        unfold aOut
        rw [upd_two, upd_c (i := 24 + j) (j := 138 + 20 * t) (by omega), upd_c (i := 24 + j) (j := 10) (by omega), upd_c (i := 12 + j) (j := 138 + 20 * t) (by omega), upd_c (i := 12 + j) (j := 10) (by omega)]
        exact q2
      obtain ⟨σ1, τ1, r1, r2, r3, r4, r5, r6, r7, r8, r9⟩ := ih (j + 1) _ _ (by omega) o3 o2 (hK.fr q3 (fun q i y => sN_W y)) hM' z (by omega)
      have ec : u_X4_fail_h0_3 r N (nI t) v2 (nI j) σ = s_X4_moveOut r (nI t) (nI j) σ := rfl
      have em : u_X9_doFail_h0_4 N (nI t) (nI j) τ = s_X9_place (nI j) (-1) (-1) τ := rfl
      refine ⟨σ1, τ1, ?_, ?_, ?_, ?_, r5, r6, o4.tr r7, r8, q3.tr r9⟩
      · rw [l_X4_fail, hs.1, if_neg c, eO, if_pos c1, ec, nI_1]
        exact r1
      · rw [q_X4_fail, hs.1, eO, ec, nI_1]
        exact ⟨fun y => absurd y c, fun _ => ⟨at_p (by decide), fun y => absurd c1 y, fun _ => ⟨o1, r2⟩⟩⟩
      · rw [l_X9_doFail, e1, if_neg c, eM, if_pos c1, em, nI_1]
        exact r3
      · rw [q_X9_doFail, e1, eM, em, nI_1]
        exact ⟨e2, fun y => absurd y c, fun _ => ⟨v12, fun y => absurd c1 y, fun _ => ⟨q1, r4⟩⟩⟩
    · have ef := aFl_s (R := R) (show j < 12 by omega) c1
      obtain ⟨σ1, τ1, r1, r2, r3, r4, r5, r6, r7, r8, r9⟩ := ih (j + 1) σ τ (by omega) hs (by rw [ef]; exact hC) hK (by rw [ef]; exact hM) z (by omega)
      refine ⟨σ1, τ1, ?_, ?_, ?_, ?_, r5, r6, r7, r8, r9⟩
      · rw [l_X4_fail, hs.1, if_neg c, eO, if_neg c1, nI_1]
        exact r1
      · rw [q_X4_fail, hs.1, eO, nI_1]
        exact ⟨fun y => absurd y c, fun _ => ⟨at_p (by decide), fun _ => r2, fun y => absurd y c1⟩⟩
      · rw [l_X9_doFail, e1, if_neg c, eM, if_neg c1, nI_1]
        exact r3
      · rw [q_X9_doFail, e1, eM, nI_1]
        exact ⟨e2, fun y => absurd y c, fun _ => ⟨v12, fun _ => r4, fun y => absurd y c1⟩⟩
def sF (r t : Nat) (q j : Nat) : Prop := sW r t q j ∨ (q = r + 6 + 5 * t ∧ j ≤ 3) ∨ (q = r + 5 + 5 * t ∧ j = 1)
theorem pr_fail {sl al r t W n N B p : Nat} {σ τ : zS} {A : Nat → Int32} {D RS TP ST : Nat → Nat} (hl : Rly r) (hN : 500 < N) (hs : CSt σ r W n) (hC : CRel sl al σ r A) (hK : WK τ B W n) (hM : MRel τ A) (h : WF A W D RS TP ST) (ht : t < 4) (hR : 1 ≤ RS t) (hp : TP t = p) : p_X4_fail r (nI t) (nI p) N σ ∧ p_X9_doFail (nI t) N τ ∧ (r_X4_fail r (nI t) (nI p) N σ).1 = nI p ∧ ∃ A' : Nat → Int32, CRel sl al (r_X4_fail r (nI t) (nI p) N σ).2 r A' ∧ CSt (r_X4_fail r (nI t) (nI p) N σ).2 r W n ∧ (∀ q j, ¬ sF r t q j → (r_X4_fail r (nI t) (nI p) N σ).2.1 q j = σ.1 q j) ∧ (r_X4_fail r (nI t) (nI p) N σ).2.1 (r + 5 + 5 * t) 1 = 3 ∧ (r_X4_fail r (nI t) (nI p) N σ).2.1 (r + 6 + 5 * t) 2 = 0 ∧ (∀ q j, ¬ (q = r + 6 + 5 * t ∧ j = 4) → (r_X4_fail r (nI t) (nI p) N σ).2.2 q j = σ.2 q j) ∧ (r_X4_fail r (nI t) (nI p) N σ).2.2 (r + 6 + 5 * t) 4 = 1000001 ∧ MRel (s_X9_doFail (nI t) N τ) (upd A' 10 (nI p)) ∧ rfr sN τ (s_X9_doFail (nI t) N τ) ∧ WF A' W (fu D t 0) (fu RS t 0) (fu TP t 0) (fu ST t 3) ∧ A' (12 + p) = -1 ∧ (∀ i, (i ≤ 11 ∨ (36 ≤ i ∧ i < 136) ∨ (∃ u, u < 4 ∧ ((139 + 20 * u ≤ i ∧ i ≤ 147 + 20 * u) ∨ (¬ u = t ∧ 136 + 20 * u ≤ i ∧ i ≤ 148 + 20 * u)))) → A' i = A i) := by
  have hW := h.1
  have hc := cnt_rs ht (RS t) A RS rfl h
  obtain ⟨w1, -, wD, -, wR, -, -, -, wT, -⟩ := h.2.1 t ht
  obtain ⟨wT, hTP⟩ := wT hR
  rw [hp] at wT hTP
  have i12 : (f_X9_atTask (nI t) 12).toNatClampNeg = 148 + 20 * t := by rw [at_12, nI_clamp (by omega)]; omega
  have u1 : u_X9_doFail_1 (nI t) N τ = zuI τ 469 10 (nI p) := by
    unfold u_X9_doFail_1
    rw [i12, hM _ (by omega), wT]
  have M0 : MRel (zuI τ 469 10 (nI p)) (upd (upd (aFl A t (RS t) 0) (138 + 20 * t) (nI (RS t))) 10 (nI p)) := by
    rw [aFl_0 wR, upd_same wR]
    exact hM.up
  obtain ⟨σ1, τ1, r1, r2, r3, r4, r5, r6, r7, r8, r9⟩ := pr_fail_loop (sl := sl) (al := al) (N := N) (v2 := nI p) (y0 := nI p) hl ht hW hc W 0 σ (zuI τ 469 10 (nI p)) (by omega) hs (by rw [aFl_0 wR]; exact hC) (hK.fr (rfr.rf.uI (show sN _ _ from ⟨rfl, by omega⟩)) (fun q j y => sN_W y)) M0 N (by omega)
  have er : r_X4_fail r (nI t) (nI p) N σ = (nI p, u_X4_fail_h0_2 r N (nI t) (nI p) (nI W) σ1) := r1
  have tk := tk_eq r5.2.2 ht
  have eu : u_X4_fail_h0_2 r N (nI t) (nI p) (nI W) σ1 = zuI (zuR (zuI (zuI (zuI (zuI σ1 (r + 6 + 5 * t) 0 0) (r + 6 + 5 * t) 1 0) (r + 6 + 5 * t) 2 0) (r + 6 + 5 * t) 3 0) (r + 6 + 5 * t) 4 1000001) (r + 5 + 5 * t) 1 3 := by
    unfold u_X4_fail_h0_2 u_X4_fail_h0_1
    rw [tk, show r + 5 + 5 * t + 1 = r + 6 + 5 * t by omega]
    rfl
  have lc : ∀ k i, 1 ≤ k → ¬ Lk sl al r (r + 6 + 5 * t) k i := fun k i hk y => by
    unfold Lk at y
    rcases y with y | y | y | ⟨u, y⟩ | ⟨u, y⟩ <;> omega
  have l1 : ∀ i, ¬ Lk sl al r (r + 5 + 5 * t) 1 i := fun i y => by
    unfold Lk at y
    rcases y with y | y | y | ⟨u, y⟩ | ⟨u, y⟩ <;> omega
  have C1 : CRel sl al (u_X4_fail_h0_2 r N (nI t) (nI p) (nI W) σ1) r (upd (aFl A t (RS t) W) (137 + 20 * t) 0) := by
    rw [eu]
    refine CRel.sk ?_ l1
    have q : CRel sl al (zuI (zuI (zuI (zuI σ1 (r + 6 + 5 * t) 0 0) (r + 6 + 5 * t) 1 0) (r + 6 + 5 * t) 2 0) (r + 6 + 5 * t) 3 0) r (upd (aFl A t (RS t) W) (137 + 20 * t) 0) := (((r6.up (lk_d ht)).sk (fun i => lc 1 i (by omega))).sk (fun i => lc 2 i (by omega))).sk (fun i => lc 3 i (by omega))
    exact fun b j m hm => q b j m hm
  have C2 : CRel sl al (u_X4_fail_h0_2 r N (nI t) (nI p) (nI W) σ1) r (upd (upd (aFl A t (RS t) W) (137 + 20 * t) 0) (136 + 20 * t) 3) := C1.any (lk_no (by
    right; right; right; right; right
    exact ⟨t, ht, by omega⟩))
  have S1 : CSt (u_X4_fail_h0_2 r N (nI t) (nI p) (nI W) σ1) r W n := by
    rw [eu]
    refine CSt.uI ?_ (by omega)
    have q : CSt (zuI (zuI (zuI (zuI σ1 (r + 6 + 5 * t) 0 0) (r + 6 + 5 * t) 1 0) (r + 6 + 5 * t) 2 0) (r + 6 + 5 * t) 3 0) r W n := (((r5.uI (by omega)).uI (by omega)).uI (by omega)).uI (by omega)
    exact ⟨q.1, q.2.1, fun u hu => (gR_a (by omega)).trans (q.2.2 u hu)⟩
  have e138 : aFl A t (RS t) W (138 + 20 * t) = nI 0 := by
    unfold aFl
    rw [if_neg (by omega), if_neg (by omega), if_pos rfl, hc, Nat.sub_self]
  have i0 : (f_X9_atTask (nI t) 0).toNatClampNeg = 136 + 20 * t := by rw [at_0, nI_clamp (by omega)]; omega
  have i1 : (f_X9_atTask (nI t) 1).toNatClampNeg = 137 + 20 * t := by rw [at_1, nI_clamp (by omega)]; omega
  have i2 : (f_X9_atTask (nI t) 2).toNatClampNeg = 138 + 20 * t := by rw [at_2, nI_clamp (by omega)]; omega
  have et : s_X9_doFail (nI t) N τ = zuI (zuI (zuI τ1 469 (136 + 20 * t) 3) 469 (137 + 20 * t) 0) 469 (138 + 20 * t) 0 := by
    unfold s_X9_doFail
    rw [u1]
    refine Eq.trans (show _ = _ from r3) ?_
    unfold u_X9_doFail_h0_3 u_X9_doFail_h0_2 u_X9_doFail_h0_1
    rw [i0, i1, i2]
  have eF : upd (upd (upd (aFl A t (RS t) W) (137 + 20 * t) 0) (136 + 20 * t) 3) 10 (nI p) = upd (upd (upd (upd (upd (aFl A t (RS t) W) (138 + 20 * t) (nI (RS t))) 10 (nI p)) (136 + 20 * t) 3) (137 + 20 * t) 0) (138 + 20 * t) 0 := by
    funext i
    by_cases c1 : i = 138 + 20 * t
    · rw [c1, pk_us, pk_un (by omega), pk_un (by omega), pk_un (by omega), e138]
      rfl
    rw [pk_un c1]
    by_cases c2 : i = 137 + 20 * t
    · rw [c2, pk_us, pk_un (by omega), pk_un (by omega), pk_us]
    rw [pk_un c2]
    by_cases c3 : i = 136 + 20 * t
    · rw [c3, pk_us, pk_un (by omega), pk_us]
    rw [pk_un c3]
    by_cases c4 : i = 10
    · rw [c4, pk_us, pk_us]
    rw [pk_un c4, pk_un c3, pk_un c2, pk_un c4, pk_un c1]
  have nF : ∀ i, ¬ (12 ≤ i ∧ i < 36) → ¬ i = 136 + 20 * t → ¬ i = 137 + 20 * t → ¬ i = 138 + 20 * t → upd (upd (aFl A t (RS t) W) (137 + 20 * t) 0) (136 + 20 * t) 3 i = A i := fun i n1 n2 n3 n4 => by rw [pk_un n2, pk_un n3, aFl_n hW.2 n1 n4]
  have hcl : ∀ q j, ¬ sF r t q j → (u_X4_fail_h0_2 r N (nI t) (nI p) (nI W) σ1).1 q j = σ.1 q j := fun q j hq => by
    have hq2 : ¬ sW r t q j ∧ ¬ (q = r + 6 + 5 * t ∧ j ≤ 3) ∧ ¬ (q = r + 5 + 5 * t ∧ j = 1) := ⟨fun y => hq (Or.inl y), fun y => hq (Or.inr (Or.inl y)), fun y => hq (Or.inr (Or.inr y))⟩
    rw [eu, gI_n hq2.2.2, gR_1, gI_n (by omega), gI_n (by omega), gI_n (by omega), gI_n (by omega)]
    exact r7.2 q j hq2.1
  rw [er, et]
  refine ⟨r2, ⟨?_, by rw [u1]; exact r4⟩, rfl, upd (upd (aFl A t (RS t) W) (137 + 20 * t) 0) (136 + 20 * t) 3, C2, S1, hcl, ?_, ?_, fun q j hq => ?_, ?_, ?_, ?_, ?_, ?_, fun i hi => ?_⟩
  · rw [at_12]
    exact vp_in_nI (by omega) (by decide)
  · show (u_X4_fail_h0_2 r N (nI t) (nI p) (nI W) σ1).1 (r + 5 + 5 * t) 1 = 3
    rw [eu, gI_h rfl rfl]
  · show (u_X4_fail_h0_2 r N (nI t) (nI p) (nI W) σ1).1 (r + 6 + 5 * t) 2 = 0
    rw [eu, gI_n (by omega), gR_1, gI_n (by omega), gI_h rfl rfl]
  · show (u_X4_fail_h0_2 r N (nI t) (nI p) (nI W) σ1).2 q j = σ.2 q j
    rw [eu]
    have q1 : (zuR (zuI (zuI (zuI (zuI σ1 (r + 6 + 5 * t) 0 0) (r + 6 + 5 * t) 1 0) (r + 6 + 5 * t) 2 0) (r + 6 + 5 * t) 3 0) (r + 6 + 5 * t) 4 1000001).2 q j = σ1.2 q j := if_neg hq
    refine Eq.trans q1 ?_
    rw [r7.1]
  · show (u_X4_fail_h0_2 r N (nI t) (nI p) (nI W) σ1).2 (r + 6 + 5 * t) 4 = 1000001
    rw [eu]
    exact gR_hit
  · rw [eF]
    exact r8.up.up.up
  · exact (((rfr.rf.uI (show sN _ _ from ⟨rfl, by omega⟩)).tr r9).uI (show sN _ _ from ⟨rfl, by omega⟩)).uI (show sN _ _ from ⟨rfl, by omega⟩) |>.uI (show sN _ _ from ⟨rfl, by omega⟩)
  · refine wf_fail h ht (fun i hi n1 n2 n3 n4 => nF i n1 n2 n3 n4) ?_ ?_ ?_ (fun w hw hx => ?_) (fun w hw hx => ⟨?_, ?_⟩)
    · rw [pk_us]
      rfl
    · rw [pk_un (by omega), pk_us]
      rfl
    · rw [pk_un (by omega), pk_un (by omega)]
      exact e138
    · rw [pk_un (by omega), pk_un (by omega), aFl_w (by omega), if_pos ⟨hw, hx⟩]
    · rw [pk_un (by omega), pk_un (by omega), aFl_w (by omega), if_neg (fun y => hx y.2)]
    · rw [pk_un (by omega), pk_un (by omega)]
      unfold aFl
      rw [if_neg (by omega), if_neg (fun y => hx (by have := y.2.2; rw [show 24 + w - 12 = 12 + w by omega] at this; exact this)), if_neg (by omega)]
  · have hown := (h.2.2.1.2 t 0 ht (by omega)).1
    rw [wat_0, hp] at hown
    rw [pk_un (by omega), pk_un (by omega), aFl_w (by omega), if_pos ⟨hTP, hown⟩]
  · have hi2 : ¬ (12 ≤ i ∧ i < 36) ∧ ¬ i = 136 + 20 * t ∧ ¬ i = 137 + 20 * t ∧ ¬ i = 138 + 20 * t := by
      rcases hi with y | y | ⟨u, y⟩ <;> omega
    exact nF i hi2.1 hi2.2.1 hi2.2.2.1 hi2.2.2.2
