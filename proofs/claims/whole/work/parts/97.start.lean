/-! rings set anew on both sides -/
theorem fil_l {n q N : Nat} {x : Int32} (hn : n < 2 ^ 31) : ∀ (m k : Nat) (σ : zS), k + m = n → ∀ z, m < z → q_J7_fill_53178 n q N z x (nI k) (nI n) σ ∧ (∀ j, k ≤ j → j < n → (l_J7_fill_53178 n q N z x (nI k) (nI n) σ).1 q j = x) ∧ (∀ a j, ¬ (a = q ∧ k ≤ j ∧ j < n) → (l_J7_fill_53178 n q N z x (nI k) (nI n) σ).1 a j = σ.1 a j) ∧ (l_J7_fill_53178 n q N z x (nI k) (nI n) σ).2 = σ.2 := by
  intro m
  induction m with
  | zero =>
    intro k σ hk z hz
    obtain ⟨z, rfl⟩ : ∃ y, z = y + 1 := ⟨z - 1, by omega⟩
    have c : nI n ≤ nI k := nI_le (by omega) (by omega)
    rw [q_J7_fill_53178, l_J7_fill_53178, if_pos c]
    exact ⟨fun y => absurd c y, fun j h1 h2 => absurd h1 (by omega), fun _ _ _ => rfl, rfl⟩
  | succ m ih =>
    intro k σ hk z hz
    obtain ⟨z, rfl⟩ : ∃ y, z = y + 1 := ⟨z - 1, by omega⟩
    have c : ¬ nI n ≤ nI k := nI_ge (by omega) (by omega)
    have eu : u_J7_fill_53178_h0_1 n q N x (nI k) (nI n) σ = zuI σ q k x := by
      unfold u_J7_fill_53178_h0_1
      rw [nI_clamp (by omega)]
    rw [q_J7_fill_53178, l_J7_fill_53178, if_neg c, eu, nI_1]
    obtain ⟨i1, i2, i3, i4⟩ := ih (k + 1) (zuI σ q k x) (by omega) z (by omega)
    refine ⟨fun _ => ⟨vp_in_nI (by omega) hn, i1⟩, fun j h1 h2 => ?_, fun a j h => ?_, i4⟩
    · by_cases y : j = k
      · rw [i3 _ _ (by omega), gI_h rfl y]
      · exact i2 j (by omega) h2
    · rw [i3 _ _ (by omega), gI_n (by omega)]
theorem cl_fill {n q N : Nat} {x : Int32} {σ : zS} (hn : n < N) (h31 : n < 2 ^ 31) : p_J7_fill_53178 n q x N σ ∧ (∀ j, j < n → (s_J7_fill_53178 n q x N σ).1 q j = x) ∧ (∀ a j, ¬ (a = q ∧ j < n) → (s_J7_fill_53178 n q x N σ).1 a j = σ.1 a j) ∧ (s_J7_fill_53178 n q x N σ).2 = σ.2 := by
  obtain ⟨i1, i2, i3, i4⟩ := fil_l (q := q) (N := N) (x := x) h31 n 0 σ (by omega) N hn
  exact ⟨i1, fun j hj => i2 j (by omega) hj, fun a j h => i3 a j (by omega), i4⟩
/-- a task of the class as it is ahead of its begin -/
def Tk0 (σ : zS) (a : Nat) : Prop := σ.1 a 1 = 0 ∧ σ.1 a 2 = 0 ∧ σ.1 a 4 = 0 ∧ σ.1 a 5 = 0 ∧ σ.1 a 6 = 1 ∧ σ.1 a 7 = 0 ∧ σ.1 a 8 = 0 ∧ σ.1 a 9 = 0 ∧ σ.1 a 10 = 0 ∧ σ.1 a 11 = 0 ∧ σ.1 (a + 1) 0 = 0 ∧ σ.1 (a + 1) 2 = 0 ∧ σ.2 (a + 1) 4 = 1000001
theorem Tk0.eq {σ σ1 : zS} {a : Nat} (h : Tk0 σ a) (h1 : ∀ q j, a ≤ q → q < a + 5 → σ1.1 q j = σ.1 q j) (h2 : σ1.2 (a + 1) 4 = σ.2 (a + 1) 4) : Tk0 σ1 a := by
  unfold Tk0 at h ⊢
  rw [h1 a 1 (by omega) (by omega), h1 a 2 (by omega) (by omega), h1 a 4 (by omega) (by omega), h1 a 5 (by omega) (by omega), h1 a 6 (by omega) (by omega), h1 a 7 (by omega) (by omega), h1 a 8 (by omega) (by omega), h1 a 9 (by omega) (by omega), h1 a 10 (by omega) (by omega), h1 a 11 (by omega) (by omega), h1 (a + 1) 0 (by omega) (by omega), h1 (a + 1) 2 (by omega) (by omega), h2]
  exact h
theorem cl_clr {a : Nat} {σ : zS} : Tk0 (s_X5_clear a σ) a ∧ (∀ q j, ¬ q = a → ¬ q = a + 1 → (s_X5_clear a σ).1 q j = σ.1 q j) ∧ (∀ q j, ¬ (q = a + 1 ∧ j = 4) → (s_X5_clear a σ).2 q j = σ.2 q j) := by
  have e : s_X5_clear a σ = zuI (zuI (zuI (zuI (zuI (zuI (zuI (zuI (zuI (zuI (zuI (zuR (zuI (zuI (zuI (zuI σ (a + 1) 0 0) (a + 1) 1 0) (a + 1) 2 0) (a + 1) 3 0) (a + 1) 4 1000001) a 1 0) a 2 0) a 3 (-1)) a 4 0) a 5 0) a 8 0) a 9 0) a 10 0) a 11 0) a 6 1) a 7 0 := rfl
  rw [e]
  refine ⟨⟨?_, ?_, ?_, ?_, ?_, ?_, ?_, ?_, ?_, ?_, ?_, ?_, ?_⟩, fun q j h1 h2 => ?_, fun q j h => ?_⟩
  · simp (disch := omega) only [gI_n, gI_h, gR_1]
  · simp (disch := omega) only [gI_n, gI_h, gR_1]
  · simp (disch := omega) only [gI_n, gI_h, gR_1]
  · simp (disch := omega) only [gI_n, gI_h, gR_1]
  · simp (disch := omega) only [gI_n, gI_h, gR_1]
  · simp (disch := omega) only [gI_n, gI_h, gR_1]
  · simp (disch := omega) only [gI_n, gI_h, gR_1]
  · simp (disch := omega) only [gI_n, gI_h, gR_1]
  · simp (disch := omega) only [gI_n, gI_h, gR_1]
  · simp (disch := omega) only [gI_n, gI_h, gR_1]
  · simp (disch := omega) only [gI_n, gI_h, gR_1]
  · simp (disch := omega) only [gI_n, gI_h, gR_1]
  · exact gR_hit
  · simp (disch := omega) only [gI_n, gR_1]
  · exact if_neg h
theorem cl_clrs {r q1 N : Nat} (hl : Rly r) : ∀ (m k : Nat) (σ : zS), k + m = 4 → (∀ v, v < 4 → σ.2 (r + 4) v = r + 5 + 5 * v + 1) → ∀ z, m < z → q_X4_startAnew r q1 N z (nI k) σ ∧ (∀ v, k ≤ v → v < 4 → Tk0 (l_X4_startAnew r q1 N z (nI k) σ) (r + 5 + 5 * v)) ∧ (∀ q j, (q < r + 5 + 5 * k ∨ r + 25 ≤ q) → (l_X4_startAnew r q1 N z (nI k) σ).1 q j = σ.1 q j) ∧ (∀ q j, ¬ (j = 4 ∧ r + 5 + 5 * k ≤ q ∧ q < r + 25) → (l_X4_startAnew r q1 N z (nI k) σ).2 q j = σ.2 q j) := by
  have b1 := hl.1
  intro m
  induction m with
  | zero =>
    intro k σ hk _ z hz
    obtain ⟨z, rfl⟩ : ∃ y, z = y + 1 := ⟨z - 1, by omega⟩
    have c : (4 : Int32) ≤ nI k := nI_le (a := 4) (by omega) (by omega)
    rw [q_X4_startAnew, l_X4_startAnew, if_pos c]
    exact ⟨fun y => absurd c y, fun v h1 h2 => absurd h1 (by omega), fun _ _ _ => rfl, fun _ _ _ => rfl⟩
  | succ m ih =>
    intro k σ hk g2 z hz
    obtain ⟨z, rfl⟩ : ∃ y, z = y + 1 := ⟨z - 1, by omega⟩
    have c : ¬ (4 : Int32) ≤ nI k := nI_ge (b := 4) (by omega) (by decide)
    have k4 : k < 4 := by omega
    have e1 : σ.2 (r + 4) (nI k).toNatClampNeg - 1 = r + 5 + 5 * k := by
      rw [nI_clamp (by omega), g2 k k4]
      rfl
    obtain ⟨t1, t2, t3⟩ := cl_clr (a := r + 5 + 5 * k) (σ := σ)
    have eu : u_X4_startAnew_h0_1 r q1 N (nI k) σ = s_X5_clear (r + 5 + 5 * k) σ := by
      unfold u_X4_startAnew_h0_1
      rw [e1]
    rw [q_X4_startAnew, l_X4_startAnew, if_neg c, eu, e1, nI_1]
    generalize s_X5_clear (r + 5 + 5 * k) σ = σ1 at t1 t2 t3
    obtain ⟨i1, i2, i3, i4⟩ := ih (k + 1) σ1 (by omega) (fun v hv => by rw [t3 _ _ (by omega)]; exact g2 v hv) z (by omega)
    have hne : σ.2 (r + 4) (nI k).toNatClampNeg ≠ 0 := by
      rw [nI_clamp (by omega), g2 k k4]
      omega
    refine ⟨fun _ => ⟨vp_in_nI k4 (by decide), ⟨hne, hl.task k4⟩, i1⟩, fun v h1 h2 => ?_, fun q j hq => ?_, fun q j hq => ?_⟩
    · by_cases cv : v = k
      · subst cv
        exact t1.eq (fun q j m1 m2 => i3 q j (by omega)) (i4 _ _ (by omega))
      · exact i2 v (by omega) h2
    · rw [i3 _ _ (by omega), t2 _ _ (by omega) (by omega)]
    · rw [i4 _ _ (by omega), t3 _ _ (by omega)]
def an (r q1 : Nat) (x : Int32) (N : Nat) (σ : zS) : zS := s_J7_fill_53178 12 (r + 2) (-1) N (s_J7_fill_53178 12 (r + 1) (-1) N (zuI (zuI (zuI (zuI (zuI (zuI (u_X4_startAnew_7 r q1 N σ) r 7 x) r 8 0) r 9 0) r 10 0) r 11 0) r 12 (-1)))
theorem an_ok {r q1 N : Nat} {x : Int32} {σ : zS} (hN : 500 < N) (hq : q1 + 7 ≤ r ∨ r + 25 ≤ q1) : (an r q1 x N σ).1 r 0 = σ.1 q1 0 ∧ (an r q1 x N σ).1 r 1 = σ.1 q1 7 ∧ (an r q1 x N σ).1 r 2 = σ.1 q1 1 ∧ (an r q1 x N σ).1 r 3 = σ.1 q1 2 ∧ (an r q1 x N σ).1 r 4 = σ.1 q1 4 ∧ (an r q1 x N σ).1 r 5 = σ.1 q1 5 ∧ (an r q1 x N σ).1 r 6 = σ.1 q1 3 ∧ (an r q1 x N σ).1 r 7 = x ∧ (an r q1 x N σ).1 r 8 = 0 ∧ (an r q1 x N σ).1 r 9 = 0 ∧ (an r q1 x N σ).1 r 10 = 0 ∧ (an r q1 x N σ).1 r 11 = 0 ∧ (an r q1 x N σ).1 r 12 = -1 ∧ (∀ j, j < 12 → (an r q1 x N σ).1 (r + 1) j = -1 ∧ (an r q1 x N σ).1 (r + 2) j = -1) ∧ (∀ q j, (q < r ∨ r + 3 ≤ q) → (an r q1 x N σ).1 q j = σ.1 q j) ∧ (an r q1 x N σ).2 = σ.2 := by
  have e7 : u_X4_startAnew_7 r q1 N σ = zuI (zuI (zuI (zuI (zuI (zuI (zuI σ r 0 (σ.1 q1 0)) r 1 (σ.1 q1 7)) r 2 (σ.1 q1 1)) r 3 (σ.1 q1 2)) r 4 (σ.1 q1 4)) r 5 (σ.1 q1 5)) r 6 (σ.1 q1 3) := by
    unfold u_X4_startAnew_7 u_X4_startAnew_6 u_X4_startAnew_5 u_X4_startAnew_4 u_X4_startAnew_3 u_X4_startAnew_2 u_X4_startAnew_1
    simp (disch := omega) only [gI_n]
  unfold an
  rw [e7]
  generalize hσ : zuI (zuI (zuI (zuI (zuI (zuI (zuI (zuI (zuI (zuI (zuI (zuI (zuI σ r 0 (σ.1 q1 0)) r 1 (σ.1 q1 7)) r 2 (σ.1 q1 1)) r 3 (σ.1 q1 2)) r 4 (σ.1 q1 4)) r 5 (σ.1 q1 5)) r 6 (σ.1 q1 3)) r 7 x) r 8 0) r 9 0) r 10 0) r 11 0) r 12 (-1) = σ1
  obtain ⟨-, f2, f3, f4⟩ := cl_fill (n := 12) (q := r + 1) (x := -1) (σ := σ1) (show 12 < N by omega) (by decide)
  generalize s_J7_fill_53178 12 (r + 1) (-1) N σ1 = σ2 at f2 f3 f4
  obtain ⟨-, g2, g3, g4⟩ := cl_fill (n := 12) (q := r + 2) (x := -1) (σ := σ2) (show 12 < N by omega) (by decide)
  generalize s_J7_fill_53178 12 (r + 2) (-1) N σ2 = σ3 at g2 g3 g4
  have k : ∀ j, σ3.1 r j = σ1.1 r j := fun j => by rw [g3 _ _ (by omega), f3 _ _ (by omega)]
  rw [k 0, k 1, k 2, k 3, k 4, k 5, k 6, k 7, k 8, k 9, k 10, k 11, k 12, ← hσ]
  refine ⟨?_, ?_, ?_, ?_, ?_, ?_, ?_, ?_, ?_, ?_, ?_, ?_, ?_, fun j hj => ⟨?_, g2 j hj⟩, fun q j hq1 => ?_, ?_⟩
  · simp (disch := omega) only [gI_n, gI_h]
  · simp (disch := omega) only [gI_n, gI_h]
  · simp (disch := omega) only [gI_n, gI_h]
  · simp (disch := omega) only [gI_n, gI_h]
  · simp (disch := omega) only [gI_n, gI_h]
  · simp (disch := omega) only [gI_n, gI_h]
  · simp (disch := omega) only [gI_n, gI_h]
  · simp (disch := omega) only [gI_n, gI_h]
  · simp (disch := omega) only [gI_n, gI_h]
  · simp (disch := omega) only [gI_n, gI_h]
  · simp (disch := omega) only [gI_n, gI_h]
  · simp (disch := omega) only [gI_n, gI_h]
  · simp (disch := omega) only [gI_n, gI_h]
  · rw [g3 _ _ (by omega), f2 j hj]
  · rw [g3 _ _ (by omega), f3 _ _ (by omega), ← hσ]
    simp (disch := omega) only [gI_n]
  · rw [g4, f4, ← hσ]
    rfl
theorem an_p {r q1 N : Nat} {x : Int32} {σ : zS} (hN : 500 < N) : p_J7_fill_53178 12 (r + 1) (-1) N (zuI (zuI (zuI (zuI (zuI (zuI (u_X4_startAnew_7 r q1 N σ) r 7 x) r 8 0) r 9 0) r 10 0) r 11 0) r 12 (-1)) ∧ p_J7_fill_53178 12 (r + 2) (-1) N (s_J7_fill_53178 12 (r + 1) (-1) N (zuI (zuI (zuI (zuI (zuI (zuI (u_X4_startAnew_7 r q1 N σ) r 7 x) r 8 0) r 9 0) r 10 0) r 11 0) r 12 (-1))) := ⟨(cl_fill (show 12 < N by omega) (by decide)).1, (cl_fill (show 12 < N by omega) (by decide)).1⟩
theorem cl_anew {r q1 W n N : Nat} {σ : zS} (hN : 500 < N) (hl : Rly r) (hq : q1 + 7 ≤ r ∨ r + 25 ≤ q1) (hpr : ∀ v, v < 4 → σ.2 (r + 4) v = r + 5 + 5 * v + 1) (h0 : σ.1 q1 0 = nI W) (h7 : σ.1 q1 7 = nI n) (hn : n ≤ 4) : p_X4_startAnew r q1 N σ ∧ NR (s_X4_startAnew r q1 N σ) r W n ∧ (s_X4_startAnew r q1 N σ).1 r 2 = σ.1 q1 1 ∧ (s_X4_startAnew r q1 N σ).1 r 3 = σ.1 q1 2 ∧ (s_X4_startAnew r q1 N σ).1 r 4 = σ.1 q1 4 ∧ (s_X4_startAnew r q1 N σ).1 r 5 = σ.1 q1 5 ∧ (s_X4_startAnew r q1 N σ).1 r 6 = σ.1 q1 3 ∧ (s_X4_startAnew r q1 N σ).1 r 7 = (if n = 0 then -1 else 0) ∧ (s_X4_startAnew r q1 N σ).1 r 8 = 0 ∧ (s_X4_startAnew r q1 N σ).1 r 9 = 0 ∧ (∀ v, v < 4 → (s_X4_startAnew r q1 N σ).1 (r + 5 + 5 * v) 1 = 0) ∧ zfr r (r + 25) σ (s_X4_startAnew r q1 N σ) ∧ (∀ q j, ¬ (j = 4 ∧ r + 5 ≤ q ∧ q < r + 25) → (s_X4_startAnew r q1 N σ).2 q j = σ.2 q j) := by
  have b1 := hl.1
  have e1 : (u_X4_startAnew_7 r q1 N σ).1 r 1 = nI n := by
    have := (an_ok (x := 0) (σ := σ) hN hq).2.1
    unfold an at this
    rw [(cl_fill (show 12 < N by omega) (by decide)).2.2.1 _ _ (by omega), (cl_fill (show 12 < N by omega) (by decide)).2.2.1 _ _ (by omega)] at this
    rw [gI_n (by omega), gI_n (by omega), gI_n (by omega), gI_n (by omega), gI_n (by omega), gI_n (by omega)] at this
    rw [this, h7]
  have es : s_X4_startAnew r q1 N σ = l_X4_startAnew r q1 N N (nI 0) (an r q1 (if n = 0 then -1 else 0) N σ) := by
    unfold s_X4_startAnew
    rw [e1]
    by_cases c : n = 0
    · rw [if_pos c, if_pos (show nI n ≤ 0 by rw [c]; decide)]
      rfl
    · rw [if_neg c, if_neg (nI_nle (by omega) (by omega))]
      rfl
  obtain ⟨a0, a1, a2, a3, a4, a5, a6, a7, a8, a9, a10, a11, a12, aw, ao, ar⟩ := an_ok (x := if n = 0 then -1 else 0) (σ := σ) hN hq
  have lp := fun x => cl_clrs (q1 := q1) (N := N) hl 4 0 (an r q1 x N σ) rfl (fun v hv => by rw [(an_ok (x := x) (σ := σ) hN hq).2.2.2.2.2.2.2.2.2.2.2.2.2.2.2]; exact hpr v hv) N (by omega)
  have pp : p_X4_startAnew r q1 N σ := by
    unfold p_X4_startAnew
    exact ⟨fun _ => ⟨(an_p hN).1, (an_p hN).2, (lp (-1)).1⟩, fun _ => ⟨(an_p hN).1, (an_p hN).2, (lp 0).1⟩⟩
  refine ⟨pp, ?_⟩
  rw [es]
  obtain ⟨-, i2, i3, i4⟩ := lp (if n = 0 then -1 else 0)
  generalize l_X4_startAnew r q1 N N (nI 0) (an r q1 (if n = 0 then -1 else 0) N σ) = σ1 at i2 i3 i4
  generalize an r q1 (if n = 0 then -1 else 0) N σ = σ0 at a0 a1 a2 a3 a4 a5 a6 a7 a8 a9 a10 a11 a12 aw ao ar i3 i4
  have k : ∀ j, σ1.1 r j = σ0.1 r j := fun j => i3 _ _ (by omega)
  refine ⟨⟨⟨by rw [k, a0, h0], by rw [k, a1, h7], fun v hv => by rw [i4 _ _ (by omega), ar]; exact hpr v hv⟩, fun j hj => ⟨(i3 _ _ (by omega)).trans (aw j hj).1, (i3 _ _ (by omega)).trans (aw j hj).2⟩, by rw [k, a10], by rw [k, a11], by rw [k, a12], fun v hv => ?_⟩, by rw [k, a2], by rw [k, a3], by rw [k, a4], by rw [k, a5], by rw [k, a6], by rw [k, a7], by rw [k, a8], by rw [k, a9], fun v hv => (i2 v (by omega) hv).1, fun q hq1 => ⟨funext fun j => ?_, funext fun j => ?_⟩, fun q j hq1 => ?_⟩
  · obtain ⟨d1, d2, d4, d5, d6, d7, d8, d9, d10, d11, dd0, dd2, ddr⟩ := i2 v (by omega) hv
    rw [show r + 6 + 5 * v = r + 5 + 5 * v + 1 by omega]
    exact ⟨d2, d4, d5, d6, d7, d8, d9, d10, d11, dd0, dd2, ddr⟩
  · rw [i3 _ _ (by omega), ao _ _ (by omega)]
  · rw [i4 _ _ (by omega), ar]
  · rw [i4 _ _ (by omega), ar]
/-! the reference -/
theorem rf_clears {N : Nat} (hN : 500 < N) : ∀ (m k : Nat) (τ : zS), k + m = 4 → ∀ z y, z = y + m + 1 → ∃ τ1, l_X9_startAnew N z 1 (nI k) τ = l_X9_startAnew N (y + 1) 1 (nI 4) τ1 ∧ (q_X9_startAnew N (y + 1) 1 (nI 4) τ1 → q_X9_startAnew N z 1 (nI k) τ) ∧ (∀ v, k ≤ v → v < 4 → (∀ i, i < 20 → ¬ i = 5 → τ1.1 469 (136 + 20 * v + i) = 0) ∧ τ1.1 469 (141 + 20 * v) = 1 ∧ τ1.1 469 (236 + 2801 * v) = 0) ∧ (∀ a j, ¬ a = 469 → τ1.1 a j = τ.1 a j) ∧ (∀ j, (j < 136 + 20 * k ∨ (216 ≤ j ∧ ∀ v, k ≤ v → v < 4 → ¬ j = 236 + 2801 * v)) → τ1.1 469 j = τ.1 469 j) ∧ τ1.2 = τ.2 := by
  intro m
  induction m with
  | zero =>
    intro k τ hk z y hz
    subst hz
    obtain rfl : k = 4 := by omega
    exact ⟨τ, rfl, fun h => h, fun v h1 h2 => absurd h1 (by omega), fun _ _ _ => rfl, fun _ _ => rfl, rfl⟩
  | succ m ih =>
    intro k τ hk z y hz
    subst hz
    have c : ¬ (4 : Int32) ≤ nI k := nI_ge (b := 4) (by omega) (by decide)
    obtain ⟨c1, c2, c3, c4, c5, c6⟩ := rw_clear (τ := τ) hN (show k ≤ 4 by omega)
    have eu : u_X9_startAnew_h1_13 N (nI k) τ = s_X9_clearTask (nI k) N τ := rfl
    rw [show y + (m + 1) + 1 = (y + m + 1) + 1 by omega, l_X9_startAnew, q_X9_startAnew, if_neg c, eu, nI_1]
    generalize s_X9_clearTask (nI k) N τ = τ2 at c2 c3 c4 c5 c6
    obtain ⟨τ1, i1, i2, i3, i4, i5, i6⟩ := ih (k + 1) τ2 (by omega) (y + m + 1) y rfl
    refine ⟨τ1, i1, fun h => ⟨fun z => absurd z c, fun _ => ⟨c1, i2 h⟩⟩, fun v h1 h2 => ?_, fun a j h => ?_, fun j h => ?_, i6.trans c6⟩
    · by_cases e : v = k
      · subst e
        exact ⟨fun i hi h5 => by rw [i5 _ (by omega)]; exact c2 i hi h5, by rw [i5 _ (by omega)]; exact c3, by rw [i5 _ (Or.inr ⟨by omega, fun w _ _ => by omega⟩)]; exact c4⟩
      · exact i3 v (by omega) h2
    · rw [i4 a j h, c5 _ _ (by omega)]
    · have hj : j < 136 + 20 * (k + 1) ∨ (216 ≤ j ∧ ∀ v, k + 1 ≤ v → v < 4 → ¬ j = 236 + 2801 * v) := by
        rcases h with h | ⟨h1, h2⟩
        · exact Or.inl (by omega)
        · exact Or.inr ⟨h1, fun v v1 v2 => h2 v (by omega) v2⟩
      rw [i5 j hj, c5 _ _ ?_]
      rcases h with h | ⟨h1, h2⟩
      · omega
      · have := h2 k (Nat.le_refl _) (by omega)
        omega
set_option maxRecDepth 100000 in
theorem rf_anew {N B n : Nat} {τ : zS} (hN : 20000 < N) (hB : B < 2) (h16 : τ.1 468 16 = nI B) (hn : τ.1 477 B = nI n) (hn4 : n ≤ 4) : p_X9_startAnew N τ ∧ NM ((s_X9_startAnew N τ).1 469) ∧ (∀ i, (i = 0 ∨ i = 1 ∨ i = 2 ∨ i = 4 ∨ i = 11) → (s_X9_startAnew N τ).1 469 i = 0) ∧ (s_X9_startAnew N τ).1 469 5 = τ.1 473 B ∧ (s_X9_startAnew N τ).1 469 6 = τ.1 471 B ∧ (s_X9_startAnew N τ).1 469 7 = τ.1 472 B ∧ (s_X9_startAnew N τ).1 469 8 = τ.1 474 B ∧ (s_X9_startAnew N τ).1 469 9 = τ.1 475 B ∧ (s_X9_startAnew N τ).1 469 3 = (if n = 0 then -1 else 0) ∧ (∀ v, v < 4 → (s_X9_startAnew N τ).1 469 (136 + 20 * v) = 0 ∧ (s_X9_startAnew N τ).1 469 (236 + 2801 * v) = 0) ∧ (s_X9_startAnew N τ).1 468 55 = 0 ∧ (s_X9_startAnew N τ).1 468 56 = 0 ∧ (∀ b, b < 2 → (s_X9_startAnew N τ).1 500 b = 0) ∧ (∀ a j, ¬ a = 469 → ¬ (a = 468 ∧ (j = 55 ∨ j = 56)) → ¬ a = 500 → (s_X9_startAnew N τ).1 a j = τ.1 a j) ∧ (s_X9_startAnew N τ).2 = τ.2 := by
  obtain ⟨w, hw⟩ : ∃ w, N = w + 11449 := ⟨N - 11449, by omega⟩
  obtain ⟨τ1, i1, i2, i3, i4, i5⟩ := rw_zero (N := N) 11440 0 τ rfl N (w + 8) (by omega)
  obtain ⟨τ2, j1, j2, j3, j4, j5, j6⟩ := rf_clears (N := N) (by omega) 4 0 τ1 rfl (w + 8) (w + 3) (by omega)
  obtain ⟨c1, c2, c3, c4, c5⟩ := rw_ring (N := N) 12 0 τ2 rfl N (by omega)
  have ec : s_X9_clearRing N τ2 = l_X9_clearRing N N (nI 0) τ2 := rfl
  rw [← ec] at c2 c3 c4 c5
  generalize hc : s_X9_clearRing N τ2 = τc at c2 c3 c4 c5
  have oc : ∀ a j, ¬ a = 469 → τc.1 a j = τ.1 a j := fun a j ha => by rw [c4 _ _ (by omega), j4 a j ha, i4 _ _ (by omega)]
  have b16 : τc.1 468 16 = nI B := (oc _ _ (by decide)).trans h16
  have rc : τc.2 = τ.2 := c5.trans (j6.trans i5)
  have e1 : u_X9_startAnew_h1_1 N (nI 4) τ2 = τc := hc
  have e2 : u_X9_startAnew_h1_2 N (nI 4) τ2 = zuI τc 469 5 (τ.1 473 B) := by
    unfold u_X9_startAnew_h1_2
    rw [e1, b16, nI_clamp (by omega), oc _ _ (by decide)]
  have e3 : u_X9_startAnew_h1_3 N (nI 4) τ2 = zuI (zuI τc 469 5 (τ.1 473 B)) 469 6 (τ.1 471 B) := by
    unfold u_X9_startAnew_h1_3
    rw [e2]
    simp (disch := omega) only [gI_n, b16]
    rw [nI_clamp (by omega), oc _ _ (by decide)]
  have e4 : u_X9_startAnew_h1_4 N (nI 4) τ2 = zuI (zuI (zuI τc 469 5 (τ.1 473 B)) 469 6 (τ.1 471 B)) 469 7 (τ.1 472 B) := by
    unfold u_X9_startAnew_h1_4
    rw [e3]
    simp (disch := omega) only [gI_n, b16]
    rw [nI_clamp (by omega), oc _ _ (by decide)]
  have e5 : u_X9_startAnew_h1_5 N (nI 4) τ2 = zuI (zuI (zuI (zuI τc 469 5 (τ.1 473 B)) 469 6 (τ.1 471 B)) 469 7 (τ.1 472 B)) 469 8 (τ.1 474 B) := by
    unfold u_X9_startAnew_h1_5
    rw [e4]
    simp (disch := omega) only [gI_n, b16]
    rw [nI_clamp (by omega), oc _ _ (by decide)]
  have e6 : u_X9_startAnew_h1_6 N (nI 4) τ2 = zuI (zuI (zuI (zuI (zuI τc 469 5 (τ.1 473 B)) 469 6 (τ.1 471 B)) 469 7 (τ.1 472 B)) 469 8 (τ.1 474 B)) 469 9 (τ.1 475 B) := by
    unfold u_X9_startAnew_h1_6
    rw [e5]
    simp (disch := omega) only [gI_n, b16]
    rw [nI_clamp (by omega), oc _ _ (by decide)]
  have q16 : (zuI (zuI (zuI (zuI (zuI τc 469 5 (τ.1 473 B)) 469 6 (τ.1 471 B)) 469 7 (τ.1 472 B)) 469 8 (τ.1 474 B)) 469 9 (τ.1 475 B)).1 468 16 = nI B := by
    rw [gI_n (by omega), gI_n (by omega), gI_n (by omega), gI_n (by omega), gI_n (by omega), b16]
  have em : f_X9_many (u_X9_startAnew_h1_6 N (nI 4) τ2) = nI n := by
    unfold f_X9_many
    rw [e6, q16, nI_clamp (by omega), gI_n (by omega), gI_n (by omega), gI_n (by omega), gI_n (by omega), gI_n (by omega), oc _ _ (by decide), hn]
  have vB : vp_in (nI B) 2 := vp_in_nI hB (by decide)
  have e9 : u_X9_startAnew_h1_9 N (nI 4) τ2 = zuI (zuI (zuI (zuI (zuI (zuI (zuI (zuI τc 469 5 (τ.1 473 B)) 469 6 (τ.1 471 B)) 469 7 (τ.1 472 B)) 469 8 (τ.1 474 B)) 469 9 (τ.1 475 B)) 469 3 (-1)) 468 55 0) 468 56 0 := by
    unfold u_X9_startAnew_h1_9 u_X9_startAnew_h1_8 u_X9_startAnew_h1_7
    rw [e6]
  have e12 : u_X9_startAnew_h1_12 N (nI 4) τ2 = zuI (zuI (zuI (zuI (zuI (zuI (zuI (zuI τc 469 5 (τ.1 473 B)) 469 6 (τ.1 471 B)) 469 7 (τ.1 472 B)) 469 8 (τ.1 474 B)) 469 9 (τ.1 475 B)) 469 3 0) 468 55 0) 468 56 0 := by
    unfold u_X9_startAnew_h1_12 u_X9_startAnew_h1_11 u_X9_startAnew_h1_10
    rw [e6]
  have hx : ∃ τ3, l_X9_startAnew N (w + 3 + 1) 1 (nI 4) τ2 = l_X9_startAnew N (w + 3) 2 (nI 0) τ3 ∧ (q_X9_startAnew N (w + 3) 2 (nI 0) τ3 → q_X9_startAnew N (w + 3 + 1) 1 (nI 4) τ2) ∧ τ3 = zuI (zuI (zuI (zuI (zuI (zuI (zuI (zuI τc 469 5 (τ.1 473 B)) 469 6 (τ.1 471 B)) 469 7 (τ.1 472 B)) 469 8 (τ.1 474 B)) 469 9 (τ.1 475 B)) 469 3 (if n = 0 then -1 else 0)) 468 55 0) 468 56 0 := by
    have c4' : (4 : Int32) ≤ nI 4 := by decide
    rw [l_X9_startAnew, q_X9_startAnew, if_pos c4', em, e1, e2, e3, e4, e5, e9, e12]
    have pq : p_X9_clearRing N τ2 := c1
    have pm : p_X9_many (u_X9_startAnew_h1_6 N (nI 4) τ2) := by
      unfold p_X9_many
      rw [e6, q16]
      exact vB
    have v1 : vp_in (τc.1 468 16) 2 := by rw [b16]; exact vB
    have v2 : vp_in ((zuI τc 469 5 (τ.1 473 B)).1 468 16) 2 := by rw [gI_n (by omega)]; exact v1
    have v3 : vp_in ((zuI (zuI τc 469 5 (τ.1 473 B)) 469 6 (τ.1 471 B)).1 468 16) 2 := by rw [gI_n (by omega)]; exact v2
    have v4 : vp_in ((zuI (zuI (zuI τc 469 5 (τ.1 473 B)) 469 6 (τ.1 471 B)) 469 7 (τ.1 472 B)).1 468 16) 2 := by rw [gI_n (by omega)]; exact v3
    have v5 : vp_in ((zuI (zuI (zuI (zuI τc 469 5 (τ.1 473 B)) 469 6 (τ.1 471 B)) 469 7 (τ.1 472 B)) 469 8 (τ.1 474 B)).1 468 16) 2 := by rw [gI_n (by omega)]; exact v4
    by_cases c : n = 0
    · have cz : nI n ≤ 0 := by rw [c]; decide
      rw [if_pos cz, if_pos c]
      exact ⟨_, rfl, fun h => ⟨fun _ => ⟨pq, v1, v2, v3, v4, v5, pm, fun _ => h, fun y => absurd cz y⟩, fun y => absurd c4' y⟩, rfl⟩
    · have cz : ¬ nI n ≤ 0 := nI_nle (by omega) (by omega)
      rw [if_neg cz, if_neg c]
      exact ⟨_, rfl, fun h => ⟨fun _ => ⟨pq, v1, v2, v3, v4, v5, pm, fun y => absurd y cz, fun _ => h⟩, fun y => absurd c4' y⟩, rfl⟩
  obtain ⟨τ3, x1, x2, x3⟩ := hx
  obtain ⟨τ4, y1, y2, y3, y4, y5⟩ := rw_unbox (N := N) 2 0 τ3 rfl (w + 3) w (by omega)
  have es : s_X9_startAnew N τ = τ4 := i1.trans (j1.trans (x1.trans y1))
  have pp : p_X9_startAnew N τ := i2 (j2 (x2 (y2 trivial)))
  rw [es]
  have k3 : ∀ j, τ4.1 469 j = τ3.1 469 j := fun j => y4 _ _ (by omega)
  have kc : ∀ j, ¬ j = 5 → ¬ j = 6 → ¬ j = 7 → ¬ j = 8 → ¬ j = 9 → ¬ j = 3 → τ4.1 469 j = τc.1 469 j := fun j h5 h6 h7 h8 h9 h3 => by
    rw [k3, x3, gI_n (by omega), gI_n (by omega), gI_n (by omega), gI_n (by omega), gI_n (by omega), gI_n (by omega), gI_n (by omega), gI_n (by omega)]
  have kz : ∀ i, (i = 0 ∨ i = 1 ∨ i = 2 ∨ i = 4 ∨ i = 11) → τ4.1 469 i = 0 := fun i hi => by
    rw [kc i (by omega) (by omega) (by omega) (by omega) (by omega) (by omega), c4 _ _ (by omega), j5 _ (Or.inl (by omega)), i3 i (by omega) (by omega)]
  have kt : ∀ v, v < 4 → (∀ i, i < 20 → ¬ i = 5 → τ4.1 469 (136 + 20 * v + i) = 0) ∧ τ4.1 469 (141 + 20 * v) = 1 ∧ τ4.1 469 (236 + 2801 * v) = 0 := fun v hv => by
    obtain ⟨t1, t2, t3⟩ := j3 v (by omega) hv
    refine ⟨fun i hi h5 => ?_, ?_, ?_⟩
    · rw [kc _ (by omega) (by omega) (by omega) (by omega) (by omega) (by omega), c4 _ _ (by omega)]
      exact t1 i hi h5
    · rw [kc _ (by omega) (by omega) (by omega) (by omega) (by omega) (by omega), c4 _ _ (by omega)]
      exact t2
    · rw [kc _ (by omega) (by omega) (by omega) (by omega) (by omega) (by omega), c4 _ _ (by omega)]
      exact t3
  refine ⟨pp, ⟨?_, fun u hu => ?_, fun v hv => ⟨(kt v hv).2.1, fun k _ k2 k5 => (kt v hv).1 k k2 k5⟩⟩, kz, ?_, ?_, ?_, ?_, ?_, ?_, fun v hv => ⟨(kt v hv).1 0 (by omega) (by omega), (kt v hv).2.2⟩, ?_, ?_, fun b hb => ?_, fun a j h1 h2 h3 => ?_, ?_⟩
  · rw [kc _ (by omega) (by omega) (by omega) (by omega) (by omega) (by omega)]
    exact c3
  · rw [kc _ (by omega) (by omega) (by omega) (by omega) (by omega) (by omega), kc _ (by omega) (by omega) (by omega) (by omega) (by omega) (by omega)]
    exact c2 u (by omega) hu
  · rw [k3, x3]
    simp (disch := omega) only [gI_n, gI_h]
  · rw [k3, x3]
    simp (disch := omega) only [gI_n, gI_h]
  · rw [k3, x3]
    simp (disch := omega) only [gI_n, gI_h]
  · rw [k3, x3]
    simp (disch := omega) only [gI_n, gI_h]
  · rw [k3, x3]
    simp (disch := omega) only [gI_n, gI_h]
  · rw [k3, x3]
    simp (disch := omega) only [gI_n, gI_h]
  · rw [y4 _ _ (by omega), x3]
    simp (disch := omega) only [gI_n, gI_h]
  · rw [y4 _ _ (by omega), x3]
    simp (disch := omega) only [gI_n, gI_h]
  · exact (y3 b (by omega) hb).trans (by decide)
  · rw [y4 _ _ (by omega), x3, gI_n (by omega), gI_n (by omega), gI_n (by omega), gI_n (by omega), gI_n (by omega), gI_n (by omega), gI_n (by omega), gI_n (by omega)]
    exact oc a j h1
  · rw [y5, x3]
    exact rc
