/-! the best handler, the best slice -/
section IS
variable {q1 q2 B W n L F U U1 r p l N : Nat} {K : aK} {H tf rg : Nat → Nat} {gv : Nat → Nat → Int32} {σ σ1 σ2 τ τ1 τ2 : zS} {x1 x2 x3 x4 x5 x6 : Int32}
theorem RX.sums {m sl e T M a b : Nat} {D RS TP ST : Nat → Nat} {A : Nat → Int32} {C : Nat → aC} (h : RX m sl 0 r q1 B W n K L F H tf gv 0 0 e T M σ τ A D RS TP ST C) (a8 : A 8 = nI a) (a9 : A 9 = nI b) : f_X4_cost r σ = nI (T * a + M * b) ∧ τ.1 469 1 = nI T ∧ τ.1 469 2 = nI M ∧ τ.1 469 8 = nI a ∧ τ.1 469 9 = nI b ∧ σ.1 r 7 = A 3 ∧ τ.1 469 3 = A 3 := by
  obtain ⟨-, -, hC, ⟨o1, o2, o3, o4, -⟩, -, -, hM, -⟩ := h
  have c4 : σ.1 r 4 = A 8 := hC r 4 8 (lk_g (by omega))
  have c5 : σ.1 r 5 = A 9 := hC r 5 9 (lk_g (by omega))
  have z0 : ∀ x : Int32, x + 0 = x := fun x => by simp
  refine ⟨?_, (hM 1 (by omega)).trans (o3.trans (z0 _)), (hM 2 (by omega)).trans (o4.trans (z0 _)), (hM 8 (by omega)).trans a8, (hM 9 (by omega)).trans a9, hC r 7 3 (lk_g (by omega)), hM 3 (by omega)⟩
  unfold f_X4_cost
  rw [o1, o2, c4, c5, a8, a9, pk_mul, pk_mul, nI_add]
/-- played below what is known, and played to the end -/
theorem pr_below {sl a b : Nat} {kn : Int32} (hN : 500 < N) : ∀ (z j e T M : Nat) (σ τ : zS) (A : Nat → Int32) (D RS TP ST : Nat → Nat) (C : Nat → aC), RX 1 sl 0 359 q1 B W n K L F H tf gv 0 0 e T M σ τ A D RS TP ST C → A 8 = nI a → A 9 = nI b → j + z = 3000 → T + 4 * z < 2 ^ 27 → e + z ≤ 3000 → ∀ y x, z < y → z < x → q_X4_playBelow 359 q1 N y kn (nI j) σ ∧ q_X9_goEvents N x (nI 3000) (nI j) τ ∧ ∃ T1 M1 T2 M2, f_X4_cost 359 (l_X4_playBelow 359 q1 N y kn (nI j) σ) = nI (T1 * a + M1 * b) ∧ (l_X9_goEvents N x (nI 3000) (nI j) τ).2.1 469 1 = nI T2 ∧ (l_X9_goEvents N x (nI 3000) (nI j) τ).2.1 469 2 = nI M2 ∧ (l_X9_goEvents N x (nI 3000) (nI j) τ).2.1 469 8 = nI a ∧ (l_X9_goEvents N x (nI 3000) (nI j) τ).2.1 469 9 = nI b ∧ (T ≤ T1 ∧ T1 ≤ T2 ∧ T2 ≤ T + 4 * z) ∧ (M ≤ M1 ∧ M1 ≤ M2 ∧ M2 ≤ M + 37 * z) ∧ ((T1 = T2 ∧ M1 = M2) ∨ kn ≤ nI (T1 * a + M1 * b)) ∧ zfr 359 384 σ (l_X4_playBelow 359 q1 N y kn (nI j) σ) ∧ rfr sYa τ (l_X9_goEvents N x (nI 3000) (nI j) τ).2 ∧ ∀ v, v < 4 → (l_X4_playBelow 359 q1 N y kn (nI j) σ).2 (359 + 4) v = 359 + 5 + 5 * v + 1 := by
  intro z
  induction z with
  | zero =>
    intro j e T M σ τ A D RS TP ST C h a8 a9 hj hT he y x hy hx
    obtain ⟨y, rfl⟩ : ∃ q, y = q + 1 := ⟨y - 1, by omega⟩
    obtain ⟨x, rfl⟩ : ∃ q, x = q + 1 := ⟨x - 1, by omega⟩
    have c : nI 3000 ≤ nI j := nI_le (by omega) (by omega)
    have c' : (3000 : Int32) ≤ nI j := c
    obtain ⟨s1, s2, s3, s4, s5, s6, s7⟩ := h.sums a8 a9
    rw [q_X4_playBelow, q_X9_goEvents, l_X4_playBelow, l_X9_goEvents, if_pos c, if_pos c']
    exact ⟨fun q => absurd c' q, fun q => absurd c q, T, M, T, M, s1, s2, s3, s4, s5, by omega, by omega, Or.inl ⟨rfl, rfl⟩, zfr.rf, rfr.rf, h.2.1.2.2⟩
  | succ z ih =>
    intro j e T M σ τ A D RS TP ST C h a8 a9 hj hT he y x hy hx
    obtain ⟨y, rfl⟩ : ∃ q, y = q + 1 := ⟨y - 1, by omega⟩
    have c' : ¬ (3000 : Int32) ≤ nI j := nI_ge (b := 3000) (by omega) (by decide)
    have c : ¬ nI 3000 ≤ nI j := c'
    obtain ⟨s1, s2, s3, s4, s5, s6, s7⟩ := h.sums a8 a9
    by_cases ck : kn ≤ nI (T * a + M * b)
    · -- what is known is reached: the reference goes on alone
      obtain ⟨-, p2, -, i, A2, D2, RS2, TP2, ST2, C2, T2, M2, j1, j2, j3, j4, j5, j6, j7, -, -, j10, -⟩ := pr_play (N := N) (m := 1) hN (z + 1) 3000 j e T M σ τ A D RS TP ST C h (by omega) (by omega) (by omega) (fun _ => by omega) (z + 1 + 1) x (by omega) hx
      obtain ⟨t1, t2, t3, t4, t5, -⟩ := j2.sums ((j7 8 (by omega) (by omega)).trans a8) ((j7 9 (by omega) (by omega)).trans a9)
      have el : l_X4_playBelow 359 q1 N (y + 1) kn (nI j) σ = σ := by
        rw [l_X4_playBelow, if_neg c', s6, s1, if_pos ck]
        by_cases ct : A 3 = -1
        · rw [if_pos ct]
        · rw [if_neg ct]
      rw [el, q_X4_playBelow, s1]
      exact ⟨fun _ _ q => absurd ck q, p2, T, M, T2, M2, rfl, t2, t3, t4, t5, by omega, by omega, Or.inr ck, zfr.rf, j10, h.2.1.2.2⟩
    · obtain ⟨x, rfl⟩ : ∃ q, x = q + 1 := ⟨x - 1, by omega⟩
      rw [q_X4_playBelow, q_X9_goEvents, l_X4_playBelow, l_X9_goEvents, if_neg c, if_neg c', s6, s7, s1, if_neg ck]
      have hTu := h.2.2.2.2.2.2.2.2.2.2.2.1
      have n4 := h.2.2.2.2.2.2.2.2.2.2.1.2.2.2.1
      rcases hTu with ⟨ht, -⟩ | ⟨t, ht, h3, hS⟩
      · have c1 : (-1 : Int32) < 0 := by decide
        rw [ht, if_pos rfl, if_pos c1]
        exact ⟨fun _ q => absurd rfl q, fun _ q => absurd c1 q, T, M, T, M, s1, s2, s3, s4, s5, by omega, by omega, Or.inl ⟨rfl, rfl⟩, zfr.rf, rfr.rf, h.2.1.2.2⟩
      · have c1 : ¬ nI t < 0 := nI_pos (by omega)
        have c2 : ¬ nI t = -1 := m1_ne (by omega)
        obtain ⟨p1, p2, A1, D1, RS1, TP1, ST1, T1, M1, g1, g2, g3, g4, g5, g6, -, g8, g9, -⟩ := pr_event h hN (by omega) ht h3 hS (fun _ => by omega)
        obtain ⟨i1, i2, T2, M2, T3, M3, k1, k2, k3, k4, k5, k6, k7, k8, k9, k10, k11⟩ := ih (j + 1) (e + 1) T1 M1 _ _ A1 D1 RS1 TP1 ST1 _ g1 ((g5 8 (by omega) (by omega)).trans a8) ((g5 9 (by omega) (by omega)).trans a9) (by omega) (by omega) (by omega) y x (by omega) (by omega)
        rw [h3, if_neg c2, if_neg c1, nI_1]
        exact ⟨fun _ _ _ => ⟨p1, i1⟩, fun _ _ => ⟨p2, i2⟩, T2, M2, T3, M3, k1, k2, k3, k4, k5, by omega, by omega, k8, g8.tr k9, g9.tr k10, k11⟩
theorem sums_le {a b T M T1 M1 T2 M2 : Nat} (ha : a ≤ 99) (hb : b ≤ 99) (hT : T ≤ T1 ∧ T1 ≤ T2 ∧ T2 ≤ T + 12000) (hM : M ≤ M1 ∧ M1 ≤ M2 ∧ M2 ≤ M + 111000) : T * a + M * b ≤ T1 * a + M1 * b ∧ T1 * a + M1 * b ≤ T2 * a + M2 * b ∧ T2 * a + M2 * b = T * a + M * b + ((T2 - T) * a + (M2 - M) * b) ∧ (T2 - T) * a + (M2 - M) * b ≤ 13000000 := by
  obtain ⟨u, rfl⟩ : ∃ u, T2 = T + u := ⟨T2 - T, by omega⟩
  obtain ⟨w, rfl⟩ : ∃ w, M2 = M + w := ⟨M2 - M, by omega⟩
  have e1 : T + u - T = u := by omega
  have e2 : M + w - M = w := by omega
  have m1 := Nat.mul_le_mul_right a hT.1
  have m2 := Nat.mul_le_mul_right a hT.2.1
  have m3 := Nat.mul_le_mul_right b hM.1
  have m4 := Nat.mul_le_mul_right b hM.2.1
  have m5 : u * a ≤ 12000 * 99 := Nat.mul_le_mul (by omega) ha
  have m6 : w * b ≤ 111000 * 99 := Nat.mul_le_mul (by omega) hb
  rw [e1, e2, Nat.add_mul, Nat.add_mul]
  rw [Nat.add_mul] at m2 m4
  omega
/-- the trial's beginning on both sides -/
theorem pr_fs (h : IV q1 q2 B W n K L F H tf gv p l rg U σ τ) (hN : 200000 < N) {A : Nat → Int32} {D RS TP ST : Nat → Nat} {C : Nat → aC} {T M : Nat} (g : RX 0 1 0 (rg p) q1 B W n K L F H tf gv 0 0 0 T M σ τ A D RS TP ST C) (ah : AH n K tf gv ST C σ) (gz : ∀ v, n ≤ v → v < 4 → ST v = 0) : p_X4_copyFrom 359 (rg p) N σ ∧ p_X4_foresee 359 390 N (s_X4_copyFrom 359 (rg p) N σ) ∧ ∃ σa, s_X4_foresee 359 390 N (s_X4_copyFrom 359 (rg p) N σ) = σa ∧ RX 1 1 0 359 q1 B W n K L F H tf gv 0 0 0 T M σa (s_X9_putAside N τ) A D RS TP ST C ∧ zfr 359 384 σ σa := by
  have hq := h.pr.2.2
  obtain ⟨t1, t2, t3, t4⟩ := pr_trial h hN g
  have hcl : CL (s_X4_copyFrom 359 (rg p) N σ) := h.2.2.2.2.2.2.2.2.1.trial t3 t2.2.1.2.2
  have n4 := g.2.2.2.2.2.2.2.2.2.2.1.2.2.2.1
  obtain ⟨i1, i2, i3, i4, i5⟩ := cl_fore (N := N) hN 4 0 _ (by omega) hcl N (by omega)
  refine ⟨t1, i1, _, rfl, t2.fore (by omega) (fun v hv hS => ?_) (ah.eq n4 (fun q j z1 z2 => t3.at (by omega))) i2 i3 (fun v hv => i5 v (by omega) hv), t3.tr (fun q hq1 => ⟨funext fun j => i2 _ _ (by omega), funext fun j => i3 _ _ (by omega)⟩)⟩
  apply Classical.byContradiction
  intro w
  have := gz v (by omega) hv
  omega
/-- a trial played on both sides; behind it all is as it was -/
theorem pr_try {sl a b : Nat} {kn : Int32} (h : IV q1 q2 B W n K L F H tf gv p l rg U σ τ) (hN : 200000 < N) {A A1 : Nat → Int32} {D RS TP ST : Nat → Nat} {C : Nat → aC} {T M : Nat} (g : RX 0 1 0 (rg p) q1 B W n K L F H tf gv 0 0 0 T M σ τ A D RS TP ST C) (ah : AH n K tf gv ST C σ) (ha : a ≤ 99) (hb : b ≤ 99) (hT : T ≤ 1300000) (b8 : A 8 = nI a) (b9 : A 9 = nI b) {σa τa : zS} (g1 : RX 1 sl 0 359 q1 B W n K L F H tf gv 0 0 0 T M σa τa A1 D RS TP ST C) (a8 : A1 8 = nI a) (a9 : A1 9 = nI b) (fs : zfr 359 384 σ σa) (m497 : ∀ j, j < 11440 → τa.1 497 j = τ.1 469 j) (fm : ∀ q j, ¬ q = 469 → ¬ q = 497 → τa.1 q j = τ.1 q j) (fr : τa.2 = τ.2) : p_X4_playBelow 359 q1 kn N σa ∧ p_X9_goEvents 3000 N τa ∧ p_X9_bringBack N (r_X9_goEvents 3000 N τa).2 ∧ ∃ σb τb c' d', s_X4_playBelow 359 q1 kn N σa = σb ∧ s_X9_bringBack N (r_X9_goEvents 3000 N τa).2 = τb ∧ IV q1 q2 B W n K L F H tf gv p l rg U σb τb ∧ RX 0 1 0 (rg p) q1 B W n K L F H tf gv 0 0 0 T M σb τb A D RS TP ST C ∧ AH n K tf gv ST C σb ∧ zfr 359 384 σ σb ∧ zfr 468 501 τ τb ∧ f_X4_cost 359 σb = nI c' ∧ f_X9_camesBy 0 (r_X9_goEvents 3000 N τa).1 (r_X9_goEvents 3000 N τa).2 = nI d' ∧ (T * a + M * b ≤ c' ∧ c' ≤ T * a + M * b + d' ∧ d' ≤ 13000000) ∧ (c' = T * a + M * b + d' ∨ kn ≤ nI c') := by
  obtain ⟨-, -, -, -, -, -, -, -, -, -, -, ⟨cc, cc1, cc2⟩, -⟩ := h.get
  have hq := h.pr.2.2
  have n4 := g.2.2.2.2.2.2.2.2.2.2.1.2.2.2.1
  obtain ⟨p1, p2, T1, M1, T2, M2, k1, k2, k3, k4, k5, k6, k7, k8, k9, k10, k11⟩ := pr_below (N := N) (kn := kn) (by omega) 3000 0 0 T M σa τa A1 D RS TP ST C g1 a8 a9 (by omega) (by omega) (by omega) N N (by omega) (by omega)
  have es : s_X4_playBelow 359 q1 kn N σa = l_X4_playBelow 359 q1 N N kn (nI 0) σa := rfl
  have er : r_X9_goEvents 3000 N τa = l_X9_goEvents N N (nI 3000) (nI 0) τa := rfl
  rw [es, er]
  generalize l_X4_playBelow 359 q1 N N kn (nI 0) σa = σb at k1 k9 k11
  generalize l_X9_goEvents N N (nI 3000) (nI 0) τa = rτ at k2 k3 k4 k5 k10
  have fs2 : zfr 359 384 σ σb := fs.tr k9
  have hcl : CL σb := h.2.2.2.2.2.2.2.2.1.trial fs2 k11
  have m2 : ∀ j, j < 11440 → rτ.2.1 497 j = τ.1 469 j := fun j hj => by rw [k10.2 _ _ (fun z => by unfold sYa at z; omega), m497 j hj]
  obtain ⟨z1, z2, z3, z4⟩ := h.trial (N := N) (σ1 := σb) (τ2 := rτ.2) hN m2 (fun q hq1 => fs2 q (by have : ¬ ((359 ≤ q ∧ q < 394) ∨ (444 ≤ q ∧ q < 468)) := hq1; omega)) hcl (fun q j z1 z2 z3 => by rw [k10.2 _ _ (fun z => by unfold sYa at z; omega), fm _ _ z1 (by omega)]) (by rw [k10.1, fr])
  obtain ⟨s1, s2, s3, s4, s5, -⟩ := g.sums b8 b9
  obtain ⟨l1, l2, l3, l4⟩ := sums_le (a := a) (b := b) ha hb k6 k7
  refine ⟨p1, p2, z1, σb, _, T1 * a + M1 * b, (T2 - T) * a + (M2 - M) * b, rfl, rfl, z2, (g.sig (fun q j z => fs2.at (by omega)) (fun q j z5 z6 => fs2.at2 (by omega))).tau (z4 _ _ (by omega)) (fun q j z => z4 _ _ (by omega)) (fun j hj => z4 _ _ (by omega)), ah.eq n4 (fun q j z5 z6 => fs2.at (by omega)), fs2, z3, k1, ?_, ⟨l1, by omega, l4⟩, ?_⟩
  · unfold f_X9_camesBy
    rw [if_pos rfl, k2, k3, k4, k5, m2 1 (by omega), m2 2 (by omega), s2, s3, pk_sub (by omega), pk_sub (by omega), pk_mul, pk_mul, nI_add]
  · rcases k8 with ⟨y1, y2⟩ | y
    · left
      rw [y1, y2]
      exact l3
    · exact Or.inr y
/-- the best so far on both sides -/
def BS (k0 k c0 : Nat) (b1 b2 v4 v3 : Int32) : Prop := (k = k0 ∧ v4 = 2147483647 ∧ v3 = 536870912) ∨ ∃ d, d ≤ 13000000 ∧ v4 = nI (c0 + d) ∧ v3 = nI d ∧ b1 = b2
theorem BS.step {k0 k c0 c' d' : Nat} {b1 b2 v4 v3 x : Int32} (h : BS k0 k c0 b1 b2 v4 v3) (h0 : c0 ≤ 1300000000) (h1 : c0 ≤ c' ∧ c' ≤ c0 + d' ∧ d' ≤ 13000000) (h2 : c' = c0 + d' ∨ v4 ≤ nI c') : (v4 ≤ nI c' ∧ ¬ nI d' < v3 ∧ BS k0 (k + 1) c0 b1 b2 v4 v3) ∨ (¬ v4 ≤ nI c' ∧ nI d' < v3 ∧ BS k0 (k + 1) c0 x x (nI c') (nI d')) := by
  rcases h with ⟨-, rfl, rfl⟩ | ⟨d, y1, rfl, rfl, rfl⟩
  · have c : ¬ (2147483647 : Int32) ≤ nI c' := nI_ge (b := 2147483647) (by omega) (by decide)
    have e : c' = c0 + d' := by
      rcases h2 with y | y
      · exact y
      · exact absurd y c
    have c2 : nI d' < (536870912 : Int32) := nI_lt (b := 536870912) (by omega) (by decide)
    exact Or.inr ⟨c, c2, Or.inr ⟨d', h1.2.2, by rw [e], rfl, rfl⟩⟩
  · by_cases c : c0 + d ≤ c'
    · exact Or.inl ⟨nI_le c (by omega), nI_nlt (by omega) (by omega), Or.inr ⟨d, y1, rfl, rfl, rfl⟩⟩
    · have cn : ¬ nI (c0 + d) ≤ nI c' := nI_ge (by omega) (by omega)
      have e : c' = c0 + d' := by
        rcases h2 with y | y
        · exact y
        · exact absurd y cn
      exact Or.inr ⟨cn, nI_lt (by omega) (by omega), Or.inr ⟨d', h1.2.2, by rw [e], rfl, rfl⟩⟩
/-- the tables of what is tried -/
def TRD (σ : zS) : Prop := ∀ i, i < 5 → σ.1 1000001 i = f_X9_triedWay (nI i) ∧ σ.1 1000002 i = f_X9_triedN (nI i)
theorem trd_can {i : Nat} (h : i < 5) : ¬ f_X8_handlerCanBe (f_X9_triedWay (nI i)) (f_X9_triedN (nI i)) = 0 := by
  rcases (show i = 0 ∨ i = 1 ∨ i = 2 ∨ i = 3 ∨ i = 4 by omega) with rfl | rfl | rfl | rfl | rfl <;> decide
theorem pr_bestl (hN : 200000 < N) {A : Nat → Int32} {D RS TP ST : Nat → Nat} {C : Nat → aC} {T M a b : Nat} (gz : ∀ v, n ≤ v → v < 4 → ST v = 0) (ha : a ≤ 99) (hb : b ≤ 99) (hT : T ≤ 1300000) (hc0 : T * a + M * b ≤ 1300000000) (b8 : A 8 = nI a) (b9 : A 9 = nI b) : ∀ (m k : Nat) (b1 b2 v4 v3 : Int32) (σ τ : zS), k + m = 5 → IV q1 q2 B W n K L F H tf gv p l rg U σ τ → RX 0 1 0 (rg p) q1 B W n K L F H tf gv 0 0 0 T M σ τ A D RS TP ST C → AH n K tf gv ST C σ → TRD σ → BS 0 k (T * a + M * b) b1 b2 v4 v3 → ∀ z y, m < z → m < y → q_X8_best N z x1 (rg p) b1 v4 (nI k) σ ∧ q_X9_best N y x1 b2 v3 (nI k) τ ∧ (l_X8_best N z x1 (rg p) b1 v4 (nI k) σ).1 = (l_X9_best N y x1 b2 v3 (nI k) τ).1 ∧ IV q1 q2 B W n K L F H tf gv p l rg U (l_X8_best N z x1 (rg p) b1 v4 (nI k) σ).2 (l_X9_best N y x1 b2 v3 (nI k) τ).2 ∧ zfr 0 468 σ (l_X8_best N z x1 (rg p) b1 v4 (nI k) σ).2 ∧ zfr 468 501 τ (l_X9_best N y x1 b2 v3 (nI k) τ).2 := by
  intro m
  induction m with
  | zero =>
    intro k b1 b2 v4 v3 σ τ hk h g ah ht hbs z y hz hy
    obtain ⟨z, rfl⟩ : ∃ q, z = q + 1 := ⟨z - 1, by omega⟩
    obtain ⟨y, rfl⟩ : ∃ q, y = q + 1 := ⟨y - 1, by omega⟩
    have c : (5 : Int32) ≤ nI k := nI_le (a := 5) (by omega) (by omega)
    obtain ⟨s1, -⟩ := g.sums b8 b9
    rw [q_X8_best, q_X9_best, l_X8_best, l_X9_best, if_pos c, if_pos c, s1]
    rcases hbs with ⟨y0, -⟩ | ⟨d, y1, rfl, rfl, rfl⟩
    · omega
    · by_cases cx : x1 = 0
      · rw [if_pos cx, if_pos cx]
        exact ⟨fun q => absurd c q, fun q => absurd c q, rfl, h, zfr.rf, zfr.rf⟩
      · rw [if_neg cx, if_neg cx]
        refine ⟨fun q => absurd c q, fun q => absurd c q, ?_, h, zfr.rf, zfr.rf⟩
        show nI (T * a + M * b + d) - nI (T * a + M * b) = nI d
        rw [pk_sub (by omega)]
        congr 1
        omega
  | succ m ih =>
    intro k b1 b2 v4 v3 σ τ hk h g ah ht hbs z y hz hy
    obtain ⟨z, rfl⟩ : ∃ q, z = q + 1 := ⟨z - 1, by omega⟩
    obtain ⟨y, rfl⟩ : ∃ q, y = q + 1 := ⟨y - 1, by omega⟩
    have k5 : k < 5 := by omega
    have c : ¬ (5 : Int32) ≤ nI k := nI_ge (b := 5) k5 (by decide)
    have ck : (nI k).toNatClampNeg = k := nI_clamp (by omega)
    have hpr := h.pr
    obtain ⟨e1, e2, σa, e3, e4, e5⟩ := pr_fs h hN g ah gz
    obtain ⟨w1, w2, w3, w4, w5, w6, w7⟩ := pr_way (N := N) e4 (by omega) (trd_can k5)
    obtain ⟨a1, a2, a3, a4⟩ := rf_aside (τ := τ) hN
    have ho : ∀ q j, q = 497 ∨ ¬ q = 469 → (s_X9_setWay (f_X9_triedWay (nI k)) (f_X9_triedN (nI k)) N (s_X9_putAside N τ)).1 q j = (s_X9_putAside N τ).1 q j := fun q j z => w5.2 _ _ (fun z => by unfold sN at z; omega)
    obtain ⟨t1, t2, t3, σb, τb, c', d', t4, t5, t6, t7, t8, t9, t10, t11, t12, t13, t14⟩ := pr_try (kn := v4) h hN g ah ha hb hT b8 b9 w3 ((w7 8 (by omega) (by omega) (by omega)).trans b8) ((w7 9 (by omega) (by omega) (by omega)).trans b9) (e5.tr w4) (fun j hj => (ho _ _ (Or.inl rfl)).trans (a2 j hj)) (fun q j z1 z2 => (ho _ _ (Or.inr z1)).trans (a3 _ _ z2)) (w5.1.trans a4)
    have u2 : u_X8_best_h0_2 N x1 (rg p) b1 v4 (nI k) σ = σa := e3
    have f1 : σa.1 1000001 (nI k).toNatClampNeg = f_X9_triedWay (nI k) := by rw [ck, e5.at (by omega)]; exact (ht k k5).1
    have f2 : f_X8_at26 5 1000002 (nI k) σa = f_X9_triedN (nI k) := by
      unfold f_X8_at26
      have c5 : ¬ Int32.ofNat 5 ≤ nI k := c
      rw [if_neg (nI_pos (by omega)), if_neg c5, ck, e5.at (by omega)]
      exact (ht k k5).2
    have u3 : u_X8_best_h0_3 N x1 (rg p) b1 v4 (nI k) σ = s_X4_changeHandler 359 (f_X9_triedWay (nI k)) (f_X9_triedN (nI k)) N σa := by
      unfold u_X8_best_h0_3
      rw [u2, f1, f2]
    have n5 : (s_X4_changeHandler 359 (f_X9_triedWay (nI k)) (f_X9_triedN (nI k)) N σa).2 0 5 = σ.2 0 5 := (e5.tr w4).at2 (by omega)
    have p5 : ((s_X4_changeHandler 359 (f_X9_triedWay (nI k)) (f_X9_triedN (nI k)) N σa).2 0 5 ≠ 0 ∧ zlay ((s_X4_changeHandler 359 (f_X9_triedWay (nI k)) (f_X9_triedN (nI k)) N σa).2 0 5 - 1) = (2, 16)) := by rw [n5]; exact hpr.2.1
    have u4 : u_X8_best_h0_4 N x1 (rg p) b1 v4 (nI k) σ = σb := by
      unfold u_X8_best_h0_4
      rw [u3, n5, hpr.1, t4]
    have cw : ¬ f_X9_isWay (f_X9_triedWay (nI k)) (f_X9_triedN (nI k)) = 0 := by rw [hc_way]; exact trd_can k5
    have ci : ¬ f_X9_isIn 0 0 3 = 0 := by decide
    have er : r_X9_would (f_X9_triedWay (nI k)) (f_X9_triedN (nI k)) 0 N τ = (nI d', τb) := by
      unfold r_X9_would
      rw [if_neg cw, if_neg ci]
      exact Prod.ext t12 t5
    have pr : p_X9_would (f_X9_triedWay (nI k)) (f_X9_triedN (nI k)) 0 N τ := fun _ _ => ⟨a1, w2, t2, t3⟩
    have v1 : u_X9_best_h0_1 N x1 b2 v3 (nI k) τ = τb := by
      unfold u_X9_best_h0_1
      rw [er]
    have pcs : p_X4_copyFrom 359 (rg p) N σ ∧ p_X4_foresee 359 390 N (u_X8_best_h0_1 N x1 (rg p) b1 v4 (nI k) σ) ∧ vp_in (nI k) 5 ∧ p_X8_at26 5 1000002 (nI k) σa ∧ p_X4_changeHandler 359 (f_X9_triedWay (nI k)) (f_X9_triedN (nI k)) N σa := ⟨e1, e2, vp_in_nI k5 (by decide), fun _ _ => vp_in_nI k5 (by decide), w1⟩
    have htb : TRD σb := fun i hi => ⟨(t9.at (by omega)).trans (ht i hi).1, (t9.at (by omega)).trans (ht i hi).2⟩
    have p6 : p_X4_playBelow 359 ((s_X4_changeHandler 359 (f_X9_triedWay (nI k)) (f_X9_triedN (nI k)) N σa).2 0 5 - 1) v4 N (s_X4_changeHandler 359 (f_X9_triedWay (nI k)) (f_X9_triedN (nI k)) N σa) := by
      rw [n5, hpr.1]
      exact t1
    rw [q_X8_best, q_X9_best, l_X8_best, l_X9_best, if_neg c, if_neg c, u2, f1, f2, u3, u4, er, v1, t11, nI_1]
    rcases hbs.step (x := nI k) hc0 t13 t14 with ⟨y1, y2, y3⟩ | ⟨y1, y2, y3⟩
    · obtain ⟨i1, i2, i3, i4, i5, i6⟩ := ih (k + 1) b1 b2 v4 v3 σb τb (by omega) t6 t7 t8 htb y3 z y (by omega) (by omega)
      rw [if_pos y1, if_neg y2]
      exact ⟨fun _ => ⟨pcs.1, pcs.2.1, pcs.2.2.1, pcs.2.2.2.1, pcs.2.2.2.2, p5, p6, fun _ => i1, fun q => absurd y1 q⟩, fun _ => ⟨pr, fun q => absurd q y2, fun _ => i2⟩, i3, i4, (t9.wk (by omega)).tr i5, t10.tr i6⟩
    · obtain ⟨i1, i2, i3, i4, i5, i6⟩ := ih (k + 1) (nI k) (nI k) (nI c') (nI d') σb τb (by omega) t6 t7 t8 htb y3 z y (by omega) (by omega)
      rw [if_neg y1, if_pos y2]
      exact ⟨fun _ => ⟨pcs.1, pcs.2.1, pcs.2.2.1, pcs.2.2.2.1, pcs.2.2.2.2, p5, p6, fun q => absurd q y1, fun _ => i1⟩, fun _ => ⟨pr, fun _ => i2, fun q => absurd y2 q⟩, i3, i4, (t9.wk (by omega)).tr i5, t10.tr i6⟩
theorem pr_now (h : IV q1 q2 B W n K L F H tf gv p l rg U σ τ) (hU : U ≤ 300000) (hN : 200000 < N) : ∃ (A : Nat → Int32) (D RS TP ST : Nat → Nat) (C : Nat → aC) (T M a b : Nat), f_X1_now σ = rg p ∧ p_X1_now σ ∧ RX 0 1 0 (rg p) q1 B W n K L F H tf gv 0 0 0 T M σ τ A D RS TP ST C ∧ (∀ v, n ≤ v → v < 4 → ST v = 0) ∧ a ≤ 99 ∧ b ≤ 99 ∧ T ≤ 1300000 ∧ T * a + M * b ≤ 1300000000 ∧ A 8 = nI a ∧ A 9 = nI b ∧ p_X8_lookAhead N σ ∧ ∃ σ1, s_X8_lookAhead N σ = σ1 ∧ IV q1 q2 B W n K L F H tf gv p l rg U σ1 τ ∧ RX 0 1 0 (rg p) q1 B W n K L F H tf gv 0 0 0 T M σ1 τ A D RS TP ST C ∧ AH n K tf gv ST C σ1 ∧ zfr 444 468 σ σ1 := by
  obtain ⟨A, D, RS, TP, ST, C, T, M, E, g1, g2, ⟨cc, cc1, cc2⟩, g3, ⟨gT, gM, gE, gz⟩, gA, -, a, b, ha, hb, b8, b9⟩ := h.get
  have n4 := g3.2.2.2.2.2.2.2.2.2.2.1.2.2.2.1
  obtain ⟨i1, i2, i3, i4, i5⟩ := cl_look (N := N) hN n 0 σ (by omega) h g3 N (by omega)
  have m1 : T * a ≤ 1200000 * 99 := Nat.mul_le_mul (by omega) ha
  have m2 : M * b ≤ 11100000 * 99 := Nat.mul_le_mul (by omega) hb
  exact ⟨A, D, RS, TP, ST, C, T, M, a, b, g1, g2, g3, gz, ha, hb, by omega, by omega, b8, b9, i1, _, rfl, i2, i3, fun v hv => i5 v (by omega) hv, i4⟩
theorem pr_best (h : Inv U σ τ) (hN : 200000 < N) (hU : U ≤ 300000) (ht : TRD σ) : PR2 U (p_X8_best x1 N σ) (p_X9_best x1 N τ) (r_X8_best x1 N σ) (r_X9_best x1 N τ) σ τ := by
  have hI := h
  obtain ⟨q1, q2, B, W, n, K, L, F, H, tf, gv, p, l, rg, h⟩ := h
  by_cases c0 : x1 < 0
  · refine pr_same hI (Nat.le_refl _) (fun y => absurd c0 y) (fun y => absurd (isIn_lo c0) y) (x := -1) (y := -1) ?_ ?_ rfl
    · unfold r_X8_best
      rw [if_pos c0]
    · unfold r_X9_best
      rw [isIn_lo c0, if_pos rfl]
  · by_cases c1 : 1 < x1
    · refine pr_same hI (Nat.le_refl _) (fun _ y => absurd y (Int32.not_le.mpr c1)) (fun y => absurd (isIn_hi c1) y) (x := -1) (y := -1) ?_ ?_ rfl
      · unfold r_X8_best
        rw [if_neg c0, if_neg (Int32.not_le.mpr c1)]
      · unfold r_X9_best
        rw [isIn_hi c1, if_pos rfl]
    · have ei : f_X9_isIn x1 0 1 = 1 := isIn_in c0 c1
      obtain ⟨A, D, RS, TP, ST, C, T, M, a, b, g1, g2, g3, gz, ha, hb, hT, hc, b8, b9, i1, σ1, i2, i3, i4, i5, i6⟩ := pr_now (N := N) h hU hN
      obtain ⟨k1, k2, k3, k4, k5, k6⟩ := pr_bestl (N := N) (x1 := x1) hN gz ha hb hT hc b8 b9 5 0 0 0 2147483647 536870912 σ1 τ (by omega) i3 i4 i5 (fun i hi => ⟨(i6.at (by omega)).trans (ht i hi).1, (i6.at (by omega)).trans (ht i hi).2⟩) (Or.inl ⟨rfl, rfl, rfl⟩) N N (by omega) (by omega)
      have u1 : u_X8_best_1 x1 N σ = σ1 := i2
      have ec : r_X8_best x1 N σ = l_X8_best N N x1 (rg p) 0 2147483647 (nI 0) σ1 := by
        unfold r_X8_best
        rw [if_neg c0, if_pos (Int32.not_lt.mp c1), u1, g1]
        rfl
      have er : r_X9_best x1 N τ = l_X9_best N N x1 0 536870912 (nI 0) τ := by
        unfold r_X9_best
        rw [ei, if_neg (by decide)]
        rfl
      unfold PR2
      rw [ec, er]
      refine ⟨fun _ _ => ⟨g2, i1, ?_⟩, fun _ => k2, k3, ⟨q1, q2, B, W, n, K, L, F, H, tf, gv, p, l, rg, k4⟩, (i6.wk (by omega)).tr k5, k6⟩
      rw [u1, g1]
      exact k1
end IS
