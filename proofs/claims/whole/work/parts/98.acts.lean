/-! acts on a ring and on the row -/
/-- the head of a store on both sides -/
def PH (σ : zS) (q1 : Nat) (τ : zS) (B W n F : Nat) : Prop := (2 ≤ W ∧ W ≤ 12) ∧ B < 2 ∧ σ.1 q1 0 = nI W ∧ τ.1 470 B = nI W ∧ (∃ y k, y ≤ 3 ∧ k ≤ 16 ∧ σ.1 q1 1 = nI y ∧ τ.1 471 B = nI y ∧ σ.1 q1 2 = nI k ∧ τ.1 472 B = nI k ∧ (y = 1 → 1 ≤ k ∧ k ≤ 8) ∧ (y = 3 → 1 ≤ k)) ∧ (∃ s, 1 ≤ s ∧ s ≤ 50 ∧ σ.1 q1 3 = nI s ∧ τ.1 473 B = nI s) ∧ (∃ a b, a ≤ 99 ∧ b ≤ 99 ∧ σ.1 q1 4 = nI a ∧ τ.1 474 B = nI a ∧ σ.1 q1 5 = nI b ∧ τ.1 475 B = nI b) ∧ σ.1 q1 6 = nI F ∧ τ.1 476 B = nI F ∧ σ.1 q1 7 = nI n ∧ τ.1 477 B = nI n ∧ σ.1 q1 8 = τ.1 478 B
theorem pr_anew {r q1 B W n N L F : Nat} {K : aK} {H tf : Nat → Nat} {gv : Nat → Nat → Int32} {σ τ : zS} {C : Nat → aC} (hN : 20000 < N) (hl : Rly r) (hq : q1 + 7 ≤ r ∨ r + 25 ≤ q1) (hpr : ∀ v, v < 4 → σ.2 (r + 4) v = r + 5 + 5 * v + 1) (hB : τ.1 468 16 = nI B) (hH : PH σ q1 τ B W n F) (hP : PK σ q1 τ B K L F H n tf gv) : p_X4_startAnew r q1 N σ ∧ p_X9_startAnew N τ ∧ RX 0 1 0 r q1 B W n K L F H tf gv 0 0 0 0 0 (s_X4_startAnew r q1 N σ) (s_X9_startAnew N τ) ((s_X9_startAnew N τ).1 469) (fun _ => 0) (fun _ => 0) (fun _ => 0) (fun _ => 0) C ∧ zfr r (r + 25) σ (s_X4_startAnew r q1 N σ) := by
  obtain ⟨h1, h2, h3, h4, ⟨y, k, y3, k16, y1, y2, k1, k2, yk1, yk3⟩, ⟨s, s1, s2, s3, s4⟩, ⟨a, b, a99, b99, ha1, ha2, hb1, hb2⟩, -, -, h7, h8, -⟩ := hH
  have n4 := hP.2.2.2.1
  obtain ⟨c1, c2, c3, c4, c5, c6, c7, c8, c9, c10, c11, c12, c13⟩ := cl_anew (n := n) (show 500 < N by omega) hl hq hpr h3 h7 n4
  obtain ⟨r1, r2, r3, r4, r5, r6, r7, r8, r9, r10, r11, r12, r13, r14, r15⟩ := rf_anew hN h2 hB h8 n4
  refine ⟨c1, r1, ?_, c12⟩
  generalize s_X4_startAnew r q1 N σ = σ1 at c2 c3 c4 c5 c6 c7 c8 c9 c10 c11 c12 c13
  generalize s_X9_startAnew N τ = τ1 at r2 r3 r4 r5 r6 r7 r8 r9 r10 r11 r12 r13 r14 r15
  have fr : rfr (fun q j => q = 469 ∨ (q = 468 ∧ (j = 55 ∨ j = 56)) ∨ q = 500) τ τ1 := ⟨r15, fun q j z => r14 q j (by omega) (by omega) (by omega)⟩
  refine rx_new hl hq c2 ⟨h2, ?_, ?_, ?_⟩ (fun i _ => rfl) h1 r2 ((hP.rf fr (fun q j z => by omega)).eq (fun q j m1 m2 => ?_)) (fun v hv => (r10 v hv).2) ⟨y, k, y3, k16, r5.trans y2, r6.trans k2, yk1, yk3⟩ ?_ ?_ ?_ (fun _ => ⟨?_, ?_⟩) (fun _ => ⟨?_, ?_, ?_, ?_⟩) ?_ ?_ ?_ (fun v hv => ⟨Or.inl rfl, (r10 v hv).1, Or.inl (c11 v hv)⟩) (fun _ v _ z => absurd z (by decide)) (Or.inl rfl)
  · rw [r14 _ _ (by omega) (by omega) (by omega)]; exact hB
  · rw [r14 _ _ (by omega) (by omega) (by omega)]; exact h4
  · rw [r14 _ _ (by omega) (by omega) (by omega)]; exact h8
  · exact c12.at (by omega)
  · rw [c3, y1, r5, y2]
  · rw [c4, k1, r6, k2]
  · rw [c8, r9]
  · rw [c7, s3, r4, s4]
  · rw [c9, r3 4 (by omega)]
  · rw [c5, ha1, r7, ha2]
  · rw [c6, hb1, r8, hb2]
  · rw [c10, r3 0 (by omega)]
  · exact r3 11 (by omega)
  · exact r3 1 (by omega)
  · exact r3 2 (by omega)
  · by_cases c : n = 0
    · rw [r9, if_pos c]
      exact Or.inl ⟨rfl, r3 4 (by omega), fun v hv => absurd hv (by omega)⟩
    · rw [r9, if_neg c]
      exact Or.inr ⟨0, by omega, rfl, by omega⟩
def rowA (τ : zS) (A : Nat → Int32) : Nat → Int32 := fun i => if i < 236 then τ.1 469 i else A i
theorem rowA_M {τ : zS} {A : Nat → Int32} : MRel τ (rowA τ A) := fun i hi => (if_pos hi).symm
theorem rowA_i {τ : zS} {A : Nat → Int32} {i : Nat} (h : i < 236) : rowA τ A i = τ.1 469 i := if_pos h
theorem rowA_o {τ τ1 : zS} {A : Nat → Int32} {i : Nat} (hM : MRel τ A) (h : i < 236 → τ1.1 469 i = τ.1 469 i) : rowA τ1 A i = A i := by
  by_cases c : i < 236
  · rw [rowA_i c, h c, hM i c]
  · exact if_neg c
theorem Lk.lt {sl al r a k i : Nat} (h : Lk sl al r a k i) : i < 236 := by
  unfold Lk at h
  rcases h with h | h | h | ⟨t, h⟩ | ⟨t, h⟩ <;> omega
/-! the handler -/
theorem hc_way {x1 x2 : Int32} : f_X9_isWay x1 x2 = f_X8_handlerCanBe x1 x2 := by
  unfold f_X9_isWay f_X8_handlerCanBe f_X9_isIn
  by_cases c0 : x1 = 0
  · rw [if_pos c0, if_pos c0]
  · rw [if_neg c0, if_neg c0]
    by_cases c1 : x1 = 1
    · rw [if_pos c1, if_pos c1, if_neg (show ¬ x1 = 2 by rw [c1]; decide), if_neg (show ¬ x1 = 3 by rw [c1]; decide)]
      by_cases d1 : x2 < 1
      · rw [if_pos d1, if_pos rfl]
      · rw [if_neg d1]
        by_cases d2 : 8 < x2
        · rw [if_pos d2, if_pos rfl]
        · rw [if_neg d2, if_neg (by decide)]
    · rw [if_neg c1, if_neg c1]
      by_cases c2 : x1 = 2
      · rw [if_pos c2, if_pos c2]
      · rw [if_neg c2, if_neg c2]
        by_cases c3 : x1 = 3
        · rw [if_pos c3, if_pos c3]
          by_cases d1 : x2 < 1
          · rw [if_pos d1, if_pos rfl]
          · rw [if_neg d1]
            by_cases d2 : 16 < x2
            · rw [if_pos d2, if_pos rfl]
            · rw [if_neg d2, if_neg (by decide)]
        · rw [if_neg c3, if_neg c3]
theorem in_lo {x : Int32} {n : Nat} (h1 : ¬ x < 1) (h2 : ¬ nI n < x) (hn : n < 1000) : ∃ k, 1 ≤ k ∧ k ≤ n ∧ x = nI k := by
  rcases pk_ix x (n := n + 1) (by omega) with h | h | ⟨j, hj, rfl⟩
  · exact absurd (Int32.lt_trans h (by decide)) h1
  · exact absurd (show nI n < x from Int32.lt_of_lt_of_le (nI_lt (by omega) (by omega)) h) h2
  · refine ⟨j, ?_, by omega, rfl⟩
    rcases Nat.eq_zero_or_pos j with e | e
    · rw [e] at h1
      exact absurd (show nI 0 < 1 by decide) h1
    · exact e
theorem hc_ok {x1 x2 : Int32} (h : ¬ f_X8_handlerCanBe x1 x2 = 0) : x1 = 0 ∨ x1 = 2 ∨ (x1 = 1 ∧ ∃ k, 1 ≤ k ∧ k ≤ 8 ∧ x2 = nI k) ∨ (x1 = 3 ∧ ∃ k, 1 ≤ k ∧ k ≤ 16 ∧ x2 = nI k) := by
  unfold f_X8_handlerCanBe at h
  by_cases c0 : x1 = 0
  · exact Or.inl c0
  · rw [if_neg c0] at h
    by_cases c1 : x1 = 1
    · rw [if_pos c1] at h
      by_cases d1 : x2 < 1
      · rw [if_pos d1] at h
        exact absurd rfl h
      · rw [if_neg d1] at h
        by_cases d2 : 8 < x2
        · rw [if_pos d2] at h
          exact absurd rfl h
        · exact Or.inr (Or.inr (Or.inl ⟨c1, in_lo (n := 8) d1 d2 (by decide)⟩))
    · rw [if_neg c1] at h
      by_cases c2 : x1 = 2
      · exact Or.inr (Or.inl c2)
      · rw [if_neg c2] at h
        by_cases c3 : x1 = 3
        · rw [if_pos c3] at h
          by_cases d1 : x2 < 1
          · rw [if_pos d1] at h
            exact absurd rfl h
          · rw [if_neg d1] at h
            by_cases d2 : 16 < x2
            · rw [if_pos d2] at h
              exact absurd rfl h
            · exact Or.inr (Or.inr (Or.inr ⟨c3, in_lo (n := 16) d1 d2 (by decide)⟩))
        · rw [if_neg c3] at h
          exact absurd rfl h
theorem cl_way {r N : Nat} {v1 v2 : Int32} (hl : Rly r) : ∀ (m k : Nat) (σ : zS), k + m = 4 → (∀ v, v < 4 → σ.2 (r + 4) v = r + 5 + 5 * v + 1) → ∀ z, m < z → q_X4_changeHandler r N z v1 v2 (nI k) σ ∧ (∀ v, k ≤ v → v < 4 → (l_X4_changeHandler r N z v1 v2 (nI k) σ).1 (r + 5 + 5 * v) 6 = 1 ∧ (l_X4_changeHandler r N z v1 v2 (nI k) σ).1 (r + 5 + 5 * v) 7 = 0) ∧ (∀ q j, (∀ v, k ≤ v → v < 4 → ¬ (q = r + 5 + 5 * v ∧ (j = 6 ∨ j = 7))) → (l_X4_changeHandler r N z v1 v2 (nI k) σ).1 q j = σ.1 q j) ∧ (l_X4_changeHandler r N z v1 v2 (nI k) σ).2 = σ.2 := by
  intro m
  induction m with
  | zero =>
    intro k σ hk _ z hz
    obtain ⟨z, rfl⟩ : ∃ y, z = y + 1 := ⟨z - 1, by omega⟩
    have c : (4 : Int32) ≤ nI k := nI_le (a := 4) (by omega) (by omega)
    rw [q_X4_changeHandler, l_X4_changeHandler, if_pos c]
    exact ⟨fun y => absurd c y, fun v h1 h2 => absurd h1 (by omega), fun _ _ _ => rfl, rfl⟩
  | succ m ih =>
    intro k σ hk g2 z hz
    obtain ⟨z, rfl⟩ : ∃ y, z = y + 1 := ⟨z - 1, by omega⟩
    have c : ¬ (4 : Int32) ≤ nI k := nI_ge (b := 4) (by omega) (by decide)
    have k4 : k < 4 := by omega
    have e1 : σ.2 (r + 4) (nI k).toNatClampNeg - 1 = r + 5 + 5 * k := by
      rw [nI_clamp (by omega), g2 k k4]
      rfl
    have eu : u_X4_changeHandler_h0_1 r N v1 v2 (nI k) σ = zuI (zuI σ (r + 5 + 5 * k) 6 1) (r + 5 + 5 * k) 7 0 := by
      unfold u_X4_changeHandler_h0_1
      rw [e1]
      rfl
    rw [q_X4_changeHandler, l_X4_changeHandler, if_neg c, eu, e1, nI_1]
    obtain ⟨i1, i2, i3, i4⟩ := ih (k + 1) (zuI (zuI σ (r + 5 + 5 * k) 6 1) (r + 5 + 5 * k) 7 0) (by omega) g2 z (by omega)
    have hne : σ.2 (r + 4) (nI k).toNatClampNeg ≠ 0 := by
      rw [nI_clamp (by omega), g2 k k4]
      omega
    refine ⟨fun _ => ⟨vp_in_nI k4 (by decide), ⟨hne, hl.task k4⟩, i1⟩, fun v h1 h2 => ?_, fun q j hq => ?_, i4⟩
    · by_cases cv : v = k
      · subst cv
        rw [i3 _ _ (fun u _ _ => by omega), i3 _ _ (fun u _ _ => by omega), gI_n (by omega), gI_h rfl rfl, gI_h rfl rfl]
        exact ⟨rfl, rfl⟩
      · exact i2 v (by omega) h2
    · have := hq k (Nat.le_refl _) k4
      rw [i3 _ _ (fun u h1 h2 => hq u (by omega) h2), gI_n (by omega), gI_n (by omega)]
def wyN (x1 x2 : Int32) : Int32 := if x1 = 1 then x2 else if x1 = 3 then x2 else 0
theorem pr_way {m sl al r q1 B W n N L F e T M : Nat} {K : aK} {H tf D RS TP ST : Nat → Nat} {gv : Nat → Nat → Int32} {dT dM x1 x2 : Int32} {σ τ : zS} {A : Nat → Int32} {C : Nat → aC} (h : RX m sl al r q1 B W n K L F H tf gv dT dM e T M σ τ A D RS TP ST C) (hN : 500 < N) (hw : ¬ f_X8_handlerCanBe x1 x2 = 0) : p_X4_changeHandler r x1 x2 N σ ∧ p_X9_setWay x1 x2 N τ ∧ RX m sl al r q1 B W n K L F H tf gv dT dM e T M (s_X4_changeHandler r x1 x2 N σ) (s_X9_setWay x1 x2 N τ) (rowA (s_X9_setWay x1 x2 N τ) A) D RS TP ST C ∧ zfr r (r + 25) σ (s_X4_changeHandler r x1 x2 N σ) ∧ rfr sN τ (s_X9_setWay x1 x2 N τ) ∧ (s_X4_changeHandler r x1 x2 N σ).2 = σ.2 ∧ (∀ i, ¬ i = 6 → ¬ i = 7 → i < 141 → rowA (s_X9_setWay x1 x2 N τ) A i = A i) := by
  have hx := h
  obtain ⟨a1, a2, a3, a4, a5, a6, a7, a8, a9, a10, a11, a12, a13, a14, a15, a16, a17, a18, a19, a20⟩ := h
  have hwn : wyN x1 x2 = (if x1 = 0 then 0 else if x1 = 2 then 0 else x2) ∧ ∃ y k, y ≤ 3 ∧ k ≤ 16 ∧ x1 = nI y ∧ wyN x1 x2 = nI k ∧ (y = 1 → 1 ≤ k ∧ k ≤ 8) ∧ (y = 3 → 1 ≤ k) := by
    rcases hc_ok hw with e | e | ⟨e, k, k1, k2, k3⟩ | ⟨e, k, k1, k2, k3⟩
    · rw [e]
      exact ⟨rfl, 0, 0, by omega, by omega, rfl, rfl, by omega, by omega⟩
    · rw [e]
      exact ⟨rfl, 2, 0, by omega, by omega, rfl, rfl, by omega, by omega⟩
    · rw [e, k3]
      exact ⟨rfl, 1, k, by omega, by omega, rfl, rfl, by omega, by omega⟩
    · rw [e, k3]
      exact ⟨rfl, 3, k, by omega, by omega, rfl, rfl, by omega, by omega⟩
  obtain ⟨wn1, y, k, w1, w2, w3, w4, w5, w6⟩ := hwn
  have es : s_X4_changeHandler r x1 x2 N σ = l_X4_changeHandler r N N x1 x2 (nI 0) (zuI (zuI σ r 2 x1) r 3 (wyN x1 x2)) := by
    unfold s_X4_changeHandler wyN
    by_cases c1 : x1 = 1
    · rw [if_pos c1, if_pos c1]
      rfl
    · rw [if_neg c1, if_neg c1]
      by_cases c3 : x1 = 3
      · rw [if_pos c3, if_pos c3]
        rfl
      · rw [if_neg c3, if_neg c3]
        rfl
  have et : s_X9_setWay x1 x2 N τ = l_X9_setWay N N x1 x2 (nI 0) (zuI (zuI τ 469 6 x1) 469 7 (wyN x1 x2)) := by
    unfold s_X9_setWay
    rw [wn1]
    by_cases c1 : x1 = 0
    · rw [if_pos c1, if_pos c1]
      rfl
    · rw [if_neg c1, if_neg c1]
      by_cases c3 : x1 = 2
      · rw [if_pos c3, if_pos c3]
        rfl
      · rw [if_neg c3, if_neg c3]
        rfl
  have lc := fun (x : Int32) => cl_way (N := N) (v1 := x1) (v2 := x2) a1.1 4 0 (zuI (zuI σ r 2 x1) r 3 x) rfl (fun v hv => a2.2.2 v hv) N (by omega)
  have lr := fun (x : Int32) => rw_way (N := N) (v1 := x1) (v2 := x2) 4 0 (zuI (zuI τ 469 6 x1) 469 7 x) rfl N (by omega)
  have pc : p_X4_changeHandler r x1 x2 N σ := ⟨fun _ => (lc x2).1, fun _ => ⟨fun _ => (lc 0).1, fun _ => (lc x2).1⟩⟩
  have pr : p_X9_setWay x1 x2 N τ := ⟨fun _ => (lr 0).1, fun _ => ⟨fun _ => (lr x2).1, fun _ => (lr 0).1⟩⟩
  obtain ⟨-, c2, c3, c4⟩ := lc (wyN x1 x2)
  obtain ⟨-, d2, d3, d4⟩ := lr (wyN x1 x2)
  refine ⟨pc, pr, ?_⟩
  rw [es, et]
  generalize l_X4_changeHandler r N N x1 x2 (nI 0) (zuI (zuI σ r 2 x1) r 3 (wyN x1 x2)) = σ1 at c2 c3 c4
  generalize l_X9_setWay N N x1 x2 (nI 0) (zuI (zuI τ 469 6 x1) 469 7 (wyN x1 x2)) = τ1 at d2 d3 d4
  have s0 : ∀ q j, ¬ (q = r ∧ (j = 2 ∨ j = 3)) → (∀ v, v < 4 → ¬ (q = r + 5 + 5 * v ∧ (j = 6 ∨ j = 7))) → σ1.1 q j = σ.1 q j := fun q j h1 h2 => by
    rw [c3 q j (fun v _ hv => h2 v hv), gI_n (by omega), gI_n (by omega)]
  have t0 : ∀ q j, ¬ (q = 469 ∧ (j = 6 ∨ j = 7)) → (∀ v, v < 4 → ¬ (q = 469 ∧ (j = 141 + 20 * v ∨ j = 142 + 20 * v))) → τ1.1 q j = τ.1 q j := fun q j h1 h2 => by
    rw [d3 q j (fun v _ hv => h2 v hv), gI_n (by omega), gI_n (by omega)]
  have s2 : σ1.1 r 2 = x1 := by rw [c3 _ _ (fun v _ hv => by omega), gI_n (by omega), gI_h rfl rfl]
  have s3 : σ1.1 r 3 = wyN x1 x2 := by rw [c3 _ _ (fun v _ hv => by omega), gI_h rfl rfl]
  have t6 : τ1.1 469 6 = x1 := by rw [d3 _ _ (fun v _ hv => by omega), gI_n (by omega), gI_h rfl rfl]
  have t7 : τ1.1 469 7 = wyN x1 x2 := by rw [d3 _ _ (fun v _ hv => by omega), gI_h rfl rfl]
  have ft : rfr sN τ τ1 := ⟨d4, fun q j z => t0 q j (fun y => z ⟨y.1, by omega⟩) (fun v hv y => z ⟨y.1, by omega⟩)⟩
  have ao : ∀ i, ¬ i = 6 → ¬ i = 7 → (∀ v, v < 4 → ¬ (i = 141 + 20 * v ∨ i = 142 + 20 * v)) → rowA τ1 A i = A i := fun i h6 h7 hv => rowA_o a7 (fun _ => t0 469 i (by omega) (fun v hv4 y => hv v hv4 y.2))
  refine ⟨hx.set (fun q j z1 z2 => s0 q j (fun y => z1 (by omega)) (fun v hv y => z2 ⟨v, hv, y⟩)) c4 ft (fun i z1 z2 => ao i (by omega) (by omega) (fun v hv y => z2 ⟨v, hv, y⟩)) (fun z => by rw [ao 4 (by omega) (by omega) (fun v hv y => by omega)]; exact z) (fun a j i hk => ?_) rowA_M ⟨y, k, w1, w2, by rw [rowA_i (by omega), t6]; exact w3, by rw [rowA_i (by omega), t7]; exact w4, w5, w6⟩ (fun v hv => ⟨⟨1, by omega, by rw [rowA_i (by omega)]; exact (d2 v (by omega) hv).1⟩, 0, by omega, Or.inl (by rw [rowA_i (by omega)]; exact (d2 v (by omega) hv).2)⟩) a19, fun q hq => ⟨funext fun j => s0 q j (by omega) (fun v hv y => by omega), by rw [c4]; rfl⟩, ft, c4, fun i h6 h7 h8 => ao i h6 h7 (fun v hv y => by omega)⟩
  have hi := hk.lt
  by_cases e6 : i = 6
  · subst e6
    obtain ⟨rfl, rfl⟩ := (hk.inj (lk_g (r := r) (sl := sl) (al := al) (show (2 = 2 ∧ 6 = 6) ∨ _ from Or.inl ⟨rfl, rfl⟩))).mpr rfl
    rw [s2, rowA_i (by omega), t6]
  · by_cases e7 : i = 7
    · subst e7
      obtain ⟨rfl, rfl⟩ := (hk.inj (lk_g (r := r) (sl := sl) (al := al) (show (3 = 2 ∧ 7 = 6) ∨ (3 = 3 ∧ 7 = 7) ∨ _ from Or.inr (Or.inl ⟨rfl, rfl⟩)))).mpr rfl
      rw [s3, rowA_i (by omega), t7]
    · by_cases ev : ∃ v, v < 4 ∧ (i = 141 + 20 * v ∨ i = 142 + 20 * v)
      · obtain ⟨v, hv, ev⟩ := ev
        rcases ev with ev | ev
        · obtain ⟨rfl, rfl⟩ := (hk.inj (lk_t (sl := sl) (al := al) (r := r) (t := v) (k := 6) hv (by omega) (by omega))).mpr (by omega)
          rw [(c2 v (by omega) hv).1, rowA_i hi, ev, (d2 v (by omega) hv).1]
        · obtain ⟨rfl, rfl⟩ := (hk.inj (lk_t (sl := sl) (al := al) (r := r) (t := v) (k := 7) hv (by omega) (by omega))).mpr (by omega)
          rw [(c2 v (by omega) hv).2, rowA_i hi, ev, (d2 v (by omega) hv).2]
      · rw [ao i e6 e7 (fun v hv y => ev ⟨v, hv, y⟩), s0 a j ?_ ?_]
        · exact a3 a j i hk
        · rintro ⟨rfl, z | z⟩
          · subst z
            exact e6 ((hk.inj (lk_g (r := a) (sl := sl) (al := al) (show (2 = 2 ∧ 6 = 6) ∨ _ from Or.inl ⟨rfl, rfl⟩))).mp ⟨rfl, rfl⟩)
          · subst z
            exact e7 ((hk.inj (lk_g (r := a) (sl := sl) (al := al) (show (3 = 2 ∧ 7 = 6) ∨ (3 = 3 ∧ 7 = 7) ∨ _ from Or.inr (Or.inl ⟨rfl, rfl⟩)))).mp ⟨rfl, rfl⟩)
        · rintro v hv ⟨rfl, z | z⟩
          · subst z
            exact ev ⟨v, hv, Or.inl (((hk.inj (lk_t (sl := sl) (al := al) (r := r) (t := v) (k := 6) hv (by omega) (by omega))).mp ⟨rfl, rfl⟩).trans (by omega))⟩
          · subst z
            exact ev ⟨v, hv, Or.inr (((hk.inj (lk_t (sl := sl) (al := al) (r := r) (t := v) (k := 7) hv (by omega) (by omega))).mp ⟨rfl, rfl⟩).trans (by omega))⟩
