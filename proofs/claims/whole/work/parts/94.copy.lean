/-! one ring copied into another; another row for the reference -/
theorem RX.tau {m sl al r q1 B W n L F e T M : Nat} {K : aK} {H tf D RS TP ST : Nat → Nat} {gv : Nat → Nat → Int32} {dT dM : Int32} {σ τ τ1 : zS} {A : Nat → Int32} {C : Nat → aC} (h : RX m sl al r q1 B W n K L F H tf gv dT dM e T M σ τ A D RS TP ST C) (h1 : τ1.1 468 16 = τ.1 468 16) (h2 : ∀ q j, (q = 470 ∨ q = 477 ∨ (480 ≤ q ∧ q ≤ 484)) → τ1.1 q j = τ.1 q j) (h3 : ∀ j, j < 11440 → τ1.1 469 j = τ.1 469 j) : RX m sl al r q1 B W n K L F H tf gv dT dM e T M σ τ1 A D RS TP ST C := by
  obtain ⟨a1, a2, a3, a4, a5, a6, a7, a8, a9, a10, a11, a12, a13, a14, a15, a16, a17, a18, a19, a20⟩ := h
  refine ⟨a1, a2, a3, a4, a5, ⟨a6.1, h1.trans a6.2.1, (h2 _ _ (by omega)).trans a6.2.2.1, (h2 _ _ (by omega)).trans a6.2.2.2⟩, fun i hi => (h3 i (by omega)).trans (a7 i hi), a8, a9, a10, ?_, a12, a13, a14, fun v hv hv1 => ?_, fun v hv hv0 => ?_, a17, a18, a19, a20⟩
  · obtain ⟨b1, b2, ⟨c1, c2, c3, c4⟩, b4, b5⟩ := a11
    refine ⟨b1, b2, ⟨c1, h1.trans c2, fun i hi => ⟨(h2 _ _ (by omega)).trans (c3 i hi).1, (h2 _ _ (by omega)).trans (c3 i hi).2⟩, fun f hf => ⟨(h2 _ _ (by omega)).trans (c4 f hf).1, (h2 _ _ (by omega)).trans (c4 f hf).2⟩⟩, b4, fun t ht => ?_⟩
    obtain ⟨d1, d2, d3, d4⟩ := b5 t ht
    exact ⟨d1, d2, (h2 _ _ (by omega)).trans d3, fun i hi => ⟨(d4 i hi).1, (h2 _ _ (by omega)).trans (d4 i hi).2⟩⟩
  · obtain ⟨z1, z2, ⟨y1, y2, y3, y4⟩, z4⟩ := a15 v hv hv1
    have hh := tyC_h a11.1 z2
    have h60 := z2.1.2
    exact ⟨z1, z2, ⟨fun k k1 k2 => (h3 _ (by omega)).trans (y1 k k1 k2), (h3 _ (by omega)).trans y2, fun j hj => (h3 _ (by omega)).trans (y3 j hj), fun k i k1 k2 hi => (h3 _ (by omega)).trans (y4 k i k1 k2 hi)⟩, z4⟩
  · have := a11.2.2.2.1
    exact ⟨(h3 _ (by omega)).trans (a16 v hv hv0).1, (a16 v hv hv0).2⟩
def Cpy (σ : zS) (s : Nat) (σ1 : zS) (r : Nat) : Prop := (∀ k, k < 13 → σ1.1 r k = σ.1 s k) ∧ (∀ j, j < 12 → σ1.1 (r + 1) j = σ.1 (s + 1) j ∧ σ1.1 (r + 2) j = σ.1 (s + 2) j) ∧ (∀ j, j < 100 → σ1.1 (r + 3) j = σ.1 (s + 3) j) ∧ (∀ v, v < 4 → ∀ k, 1 ≤ k → k ≤ 11 → σ1.1 (r + 5 + 5 * v) k = σ.1 (s + 5 + 5 * v) k) ∧ (∀ v, v < 4 → (∀ k, k ≤ 3 → σ1.1 (r + 6 + 5 * v) k = σ.1 (s + 6 + 5 * v) k) ∧ σ1.2 (r + 6 + 5 * v) 4 = 1000001 ∧ ∀ d h, d ≤ 60 → h ≤ 1680 → σ.1 (s + 6 + 5 * v) 0 = nI d → σ.1 (s + 6 + 5 * v) 2 = nI h → (∀ j, j < d * 4 → σ1.1 (r + 7 + 5 * v) j = σ.1 (s + 7 + 5 * v) j) ∧ (∀ j, j < d → σ1.1 (r + 8 + 5 * v) j = σ.1 (s + 8 + 5 * v) j) ∧ (∀ j, j < h → σ1.1 (r + 9 + 5 * v) j = σ.1 (s + 9 + 5 * v) j)) ∧ ∀ v, v < 4 → σ1.2 (r + 4) v = r + 5 + 5 * v + 1
theorem RX.cpy {sl al r s q1 B W n L F e T M : Nat} {K : aK} {H tf D RS TP ST : Nat → Nat} {gv : Nat → Nat → Int32} {dT dM : Int32} {σ σ1 τ : zS} {A : Nat → Int32} {C : Nat → aC} (h : RX 0 sl al s q1 B W n K L F H tf gv dT dM e T M σ τ A D RS TP ST C) (hl : Rly r) (hq : q1 + 7 ≤ r ∨ r + 25 ≤ q1) (hc : Cpy σ s σ1 r) (hp : ∀ q j, q1 ≤ q → q < q1 + 7 → σ1.1 q j = σ.1 q j) : RX 0 sl al r q1 B W n K L F H tf gv dT dM e T M σ1 τ A D RS TP ST C := by
  obtain ⟨a1, a2, a3, a4, a5, a6, a7, a8, a9, a10, a11, a12, a13, a14, a15, a16, a17, a18, a19, a20⟩ := h
  obtain ⟨c1, c2, c3, c4, c5, c6⟩ := hc
  refine ⟨⟨hl, hq⟩, ⟨(c1 0 (by omega)).trans a2.1, (c1 1 (by omega)).trans a2.2.1, c6⟩, fun a k i hk => ?_, ?_, fun v hv hv1 => (c4 v hv 3 (by omega) (by omega)).trans (a5 v hv hv1), a6, a7, a8, a9, (c1 12 (by omega)).trans a10, a11.eq hp, a12, a13, fun v hv => ?_, fun v hv hv1 => ?_, fun v hv hv0 => ?_, fun _ v hv => (c5 v hv).2.1, fun _ hal v hv hv2 => ((c5 v hv).1 3 (by omega)).trans (a18 rfl hal v hv hv2), a19, fun _ v hv => ?_⟩
  · unfold Lk at hk
    rcases hk with ⟨rfl, hk⟩ | ⟨rfl, hk, e⟩ | ⟨rfl, hk, e⟩ | ⟨t, ht, rfl, hk⟩ | ⟨t, ht, rfl, rfl, e⟩
    · rw [c1 k (by omega)]
      exact a3 s k i (Or.inl ⟨rfl, hk⟩)
    · rw [(c2 k hk).1]
      exact a3 (s + 1) k i (Or.inr (Or.inl ⟨rfl, hk, e⟩))
    · rw [(c2 k hk).2]
      exact a3 (s + 2) k i (Or.inr (Or.inr (Or.inl ⟨rfl, hk, e⟩)))
    · rw [c4 t ht k (by omega) (by omega)]
      exact a3 (s + 5 + 5 * t) k i (Or.inr (Or.inr (Or.inr (Or.inl ⟨t, ht, rfl, hk⟩))))
    · rw [(c5 t ht).1 0 (by omega)]
      exact a3 (s + 6 + 5 * t) 0 i (Or.inr (Or.inr (Or.inr (Or.inr ⟨t, ht, rfl, rfl, e⟩))))
  · obtain ⟨o1, o2, o3, o4, o5⟩ := a4
    refine ⟨(c1 10 (by omega)).trans o1, (c1 11 (by omega)).trans o2, o3, o4, fun z => ⟨(o5 z).1, fun i k i1 i2 hk => ?_⟩⟩
    have hm : (T - 1 - i) % 20 < 20 := Nat.mod_lt _ (by decide)
    rw [c3 _ (by omega)]
    exact (o5 z).2 i k i1 i2 hk
  · have := a14 v hv
    unfold Sx at this ⊢
    rw [c4 v hv 1 (by omega) (by omega)]
    exact this
  · obtain ⟨z1, z2, z3, z4⟩ := a15 v hv hv1
    refine ⟨z1, z2, z3, Or.inl ⟨rfl, ?_, (c5 v hv).2.1⟩⟩
    rcases z4 with ⟨-, ⟨y0, y1, y2, y3, y4, y5⟩, -⟩ | z4
    · obtain ⟨k1, k2, k3⟩ := (c5 v hv).2.2 (C v).1 (C v).2.2.2.2 z2.1.2 (tyC_h6 a11.1 z2) y0 y2
      refine ⟨((c5 v hv).1 0 (by omega)).trans y0, fun w => ((c5 v hv).1 1 (by omega)).trans (y1 w), ((c5 v hv).1 2 (by omega)).trans y2, fun j hj => ?_, fun k i j1 j2 hi => ?_, fun k j1 j2 => ?_⟩
      · rw [show r + 6 + 5 * v + 3 = r + 9 + 5 * v by omega, k3 j hj, show s + 9 + 5 * v = s + 6 + 5 * v + 3 by omega]
        exact y3 j hj
      · rw [show r + 6 + 5 * v + 1 = r + 7 + 5 * v by omega, k1 _ (by omega), show s + 7 + 5 * v = s + 6 + 5 * v + 1 by omega]
        exact y4 k i j1 j2 hi
      · rw [show r + 6 + 5 * v + 2 = r + 8 + 5 * v by omega, k2 _ j2, show s + 8 + 5 * v = s + 6 + 5 * v + 2 by omega]
        exact y5 k j1 j2
    · exact absurd z4.1 (by decide)
  · have := a11.2.2.2.1
    exact ⟨(a16 v hv hv0).1, Or.inl ⟨rfl, (c5 v (by omega)).2.1⟩⟩
  · obtain ⟨hh, hh1, hh2⟩ := a20 rfl v hv
    exact ⟨hh, hh1, ((c5 v hv).1 2 (by omega)).trans hh2⟩
/-! System.arraycopy from the first on -/
theorem zcpy_in {σ : zS} {s d n j : Nat} (h : j < n) : (zcpy σ s d 0 0 n).1 d j = σ.1 s j := by
  show (if d = d then va_cpy (σ.1 s) (σ.1 d) 0 0 n j else σ.1 d j) = _
  rw [if_pos rfl, pk_cpy_in (Nat.zero_le _) (by omega), Nat.sub_zero, Nat.zero_add]
theorem zcpy_o {σ : zS} {s d n q j : Nat} (h : ¬ q = d) : (zcpy σ s d 0 0 n).1 q j = σ.1 q j := if_neg h
theorem mn_le {k c : Nat} (hk : k < 2 ^ 31) (hc : c < 2 ^ 31) : (if nI c < nI k then nI c else nI k) = nI (if c < k then c else k) := by
  by_cases z : c < k
  · rw [if_pos (nI_lt z hk), if_pos z]
  · rw [if_neg (nI_nlt (by omega) hc), if_neg z]
theorem cl_co {a b d h : Nat} {σ : zS} (hd : d ≤ 60) (hh : h ≤ 1680) (h0 : σ.1 b 0 = nI d) (h2 : σ.1 b 2 = nI h) (hab : a + 4 ≤ b ∨ b + 4 ≤ a) : p_X0_copyFrom a b σ ∧ (∀ k, k ≤ 3 → (s_X0_copyFrom a b σ).1 a k = σ.1 b k) ∧ (s_X0_copyFrom a b σ).2 a 4 = 1000001 ∧ (∀ j, j < d * 4 → (s_X0_copyFrom a b σ).1 (a + 1) j = σ.1 (b + 1) j) ∧ (∀ j, j < d → (s_X0_copyFrom a b σ).1 (a + 2) j = σ.1 (b + 2) j) ∧ (∀ j, j < h → (s_X0_copyFrom a b σ).1 (a + 3) j = σ.1 (b + 3) j) ∧ (∀ q j, (q < a ∨ a + 4 ≤ q) → (s_X0_copyFrom a b σ).1 q j = σ.1 q j) ∧ (∀ q j, ¬ (q = a ∧ j = 4) → (s_X0_copyFrom a b σ).2 q j = σ.2 q j) := by
  have e5 : u_X0_copyFrom_5 a b σ = zuR (zuI (zuI (zuI (zuI σ a 0 (nI d)) a 1 (σ.1 b 1)) a 2 (nI h)) a 3 (σ.1 b 3)) a 4 1000001 := by
    unfold u_X0_copyFrom_5 u_X0_copyFrom_4 u_X0_copyFrom_3 u_X0_copyFrom_2 u_X0_copyFrom_1
    simp (disch := omega) only [gI_n]
    rw [h0, h2]
  have k5 : (zuR (zuI (zuI (zuI (zuI σ a 0 (nI d)) a 1 (σ.1 b 1)) a 2 (nI h)) a 3 (σ.1 b 3)) a 4 1000001).1 a 0 = nI d := by rw [gR_1, gI_n (by omega), gI_n (by omega), gI_n (by omega), gI_h rfl rfl]
  have k2 : (zuR (zuI (zuI (zuI (zuI σ a 0 (nI d)) a 1 (σ.1 b 1)) a 2 (nI h)) a 3 (σ.1 b 3)) a 4 1000001).1 a 2 = nI h := by rw [gR_1, gI_n (by omega), gI_h rfl rfl]
  generalize hσ5 : zuR (zuI (zuI (zuI (zuI σ a 0 (nI d)) a 1 (σ.1 b 1)) a 2 (nI h)) a 3 (σ.1 b 3)) a 4 1000001 = σ5 at e5 k5 k2
  have m1 : (if (240 : Int32) < nI d * 4 then 240 else nI d * 4) = nI (d * 4) := by
    have e : nI d * 4 = nI (d * 4) := pk_mul d 4
    rw [e]
    exact (mn_le (c := 240) (by omega) (by decide)).trans (congrArg nI (if_neg (by omega)))
  have m2 : (if (60 : Int32) < nI d then 60 else nI d) = nI d := (mn_le (c := 60) (by omega) (by decide)).trans (congrArg nI (if_neg (by omega)))
  have m3 : (if (1680 : Int32) < nI h then 1680 else nI h) = nI h := (mn_le (c := 1680) (by omega) (by decide)).trans (congrArg nI (if_neg (by omega)))
  have e6 : u_X0_copyFrom_6 a b σ = zcpy σ5 (b + 1) (a + 1) 0 0 (d * 4) := by
    unfold u_X0_copyFrom_6
    rw [e5, k5, m1, nI_clamp (by omega)]
  have k6 : (zcpy σ5 (b + 1) (a + 1) 0 0 (d * 4)).1 a 0 = nI d := (zcpy_o (by omega)).trans k5
  have e7 : u_X0_copyFrom_7 a b σ = zcpy (zcpy σ5 (b + 1) (a + 1) 0 0 (d * 4)) (b + 2) (a + 2) 0 0 d := by
    unfold u_X0_copyFrom_7
    rw [e6, k6, m2, nI_clamp (by omega)]
  have k7 : (zcpy (zcpy σ5 (b + 1) (a + 1) 0 0 (d * 4)) (b + 2) (a + 2) 0 0 d).1 a 2 = nI h := (zcpy_o (by omega)).trans ((zcpy_o (by omega)).trans k2)
  have es : s_X0_copyFrom a b σ = zcpy (zcpy (zcpy σ5 (b + 1) (a + 1) 0 0 (d * 4)) (b + 2) (a + 2) 0 0 d) (b + 3) (a + 3) 0 0 h := by
    unfold s_X0_copyFrom u_X0_copyFrom_8
    rw [e7, k7, m3, nI_clamp (by omega)]
  have n5 : ∀ q j, ¬ q = a → σ5.1 q j = σ.1 q j := fun q j hq => by
    rw [← hσ5, gR_1, gI_n (by omega), gI_n (by omega), gI_n (by omega), gI_n (by omega)]
  have r5 : ∀ q j, ¬ (q = a ∧ j = 4) → σ5.2 q j = σ.2 q j := fun q j hq => by
    rw [← hσ5]
    exact if_neg hq
  rw [es]
  refine ⟨?_, fun k hk => ?_, ?_, fun j hj => ?_, fun j hj => ?_, fun j hj => ?_, fun q j hq => ?_, fun q j hq => r5 q j hq⟩
  · unfold p_X0_copyFrom
    rw [e7, e6, e5, k5, k6, k7, m1, m2, m3, nI_clamp (by omega), nI_clamp (by omega), nI_clamp (by omega)]
    exact ⟨nI_pos (by omega), by omega, nI_pos (by omega), by omega, nI_pos (by omega), by omega⟩
  · rw [zcpy_o (by omega), zcpy_o (by omega), zcpy_o (by omega), ← hσ5, gR_1]
    rcases (show k = 0 ∨ k = 1 ∨ k = 2 ∨ k = 3 by omega) with rfl | rfl | rfl | rfl
    · rw [gI_n (by omega), gI_n (by omega), gI_n (by omega), gI_h rfl rfl, h0]
    · rw [gI_n (by omega), gI_n (by omega), gI_h rfl rfl]
    · rw [gI_n (by omega), gI_h rfl rfl, h2]
    · rw [gI_h rfl rfl]
  · show σ5.2 a 4 = 1000001
    rw [← hσ5]
    exact gR_hit
  · rw [zcpy_o (by omega), zcpy_o (by omega), zcpy_in hj, n5 _ _ (by omega)]
  · rw [zcpy_o (by omega), zcpy_in hj, zcpy_o (by omega), n5 _ _ (by omega)]
  · rw [zcpy_in hj, zcpy_o (by omega), zcpy_o (by omega), n5 _ _ (by omega)]
  · rw [zcpy_o (by omega), zcpy_o (by omega), zcpy_o (by omega), n5 _ _ (by omega)]
/-- a task -/
theorem cl_ct {a b d h : Nat} {σ : zS} (hd : d ≤ 60) (hh : h ≤ 1680) (h0 : σ.1 (b + 1) 0 = nI d) (h2 : σ.1 (b + 1) 2 = nI h) (hab : a + 5 ≤ b ∨ b + 5 ≤ a) : p_X5_copyFrom a b σ ∧ (∀ k, 1 ≤ k → k ≤ 11 → (s_X5_copyFrom a b σ).1 a k = σ.1 b k) ∧ (∀ k, k ≤ 3 → (s_X5_copyFrom a b σ).1 (a + 1) k = σ.1 (b + 1) k) ∧ (s_X5_copyFrom a b σ).2 (a + 1) 4 = 1000001 ∧ (∀ j, j < d * 4 → (s_X5_copyFrom a b σ).1 (a + 1 + 1) j = σ.1 (b + 1 + 1) j) ∧ (∀ j, j < d → (s_X5_copyFrom a b σ).1 (a + 1 + 2) j = σ.1 (b + 1 + 2) j) ∧ (∀ j, j < h → (s_X5_copyFrom a b σ).1 (a + 1 + 3) j = σ.1 (b + 1 + 3) j) ∧ (∀ q j, (q < a ∨ a + 5 ≤ q) → (s_X5_copyFrom a b σ).1 q j = σ.1 q j) ∧ (∀ q j, ¬ (q = a + 1 ∧ j = 4) → (s_X5_copyFrom a b σ).2 q j = σ.2 q j) := by
  obtain ⟨c1, c2, c3, c4, c5, c6, c7, c8⟩ := cl_co (a := a + 1) (b := b + 1) hd hh h0 h2 (by omega)
  have e : s_X5_copyFrom a b σ = zuI (zuI (zuI (zuI (zuI (zuI (zuI (zuI (zuI (zuI (zuI (s_X0_copyFrom (a + 1) (b + 1) σ) a 1 (σ.1 b 1)) a 2 (σ.1 b 2)) a 3 (σ.1 b 3)) a 4 (σ.1 b 4)) a 5 (σ.1 b 5)) a 6 (σ.1 b 6)) a 7 (σ.1 b 7)) a 8 (σ.1 b 8)) a 9 (σ.1 b 9)) a 10 (σ.1 b 10)) a 11 (σ.1 b 11) := by
    unfold s_X5_copyFrom u_X5_copyFrom_12 u_X5_copyFrom_11 u_X5_copyFrom_10 u_X5_copyFrom_9 u_X5_copyFrom_8 u_X5_copyFrom_7 u_X5_copyFrom_6 u_X5_copyFrom_5 u_X5_copyFrom_4 u_X5_copyFrom_3 u_X5_copyFrom_2 u_X5_copyFrom_1
    simp (disch := omega) only [gI_n]
    simp (disch := omega) only [c7]
  have n1 : ∀ q j, ¬ q = a → (s_X5_copyFrom a b σ).1 q j = (s_X0_copyFrom (a + 1) (b + 1) σ).1 q j := fun q j hq => by
    rw [e]
    simp (disch := omega) only [gI_n]
  have e2 : (s_X5_copyFrom a b σ).2 = (s_X0_copyFrom (a + 1) (b + 1) σ).2 := by
    rw [e]
    rfl
  refine ⟨c1, fun k k1 k2 => ?_, fun k hk => (n1 _ _ (by omega)).trans (c2 k hk), by rw [e2]; exact c3, fun j hj => (n1 _ _ (by omega)).trans (c4 j hj), fun j hj => (n1 _ _ (by omega)).trans (c5 j hj), fun j hj => (n1 _ _ (by omega)).trans (c6 j hj), fun q j hq => (n1 _ _ (by omega)).trans (c7 _ _ (by omega)), fun q j hq => by rw [e2]; exact c8 q j hq⟩
  rw [e]
  rcases (show k = 1 ∨ k = 2 ∨ k = 3 ∨ k = 4 ∨ k = 5 ∨ k = 6 ∨ k = 7 ∨ k = 8 ∨ k = 9 ∨ k = 10 ∨ k = 11 by omega) with rfl | rfl | rfl | rfl | rfl | rfl | rfl | rfl | rfl | rfl | rfl <;> simp (disch := omega) only [gI_n, gI_h]
/-- the tasks, one behind another -/
theorem cl_cts {r s N : Nat} {σ0 : zS} {dd hh : Nat → Nat} (hl : Rly r) (hls : Rly s) (hrs : r + 25 ≤ s ∨ s + 25 ≤ r) (hd : ∀ v, v < 4 → dd v ≤ 60 ∧ hh v ≤ 1680 ∧ σ0.1 (s + 6 + 5 * v) 0 = nI (dd v) ∧ σ0.1 (s + 6 + 5 * v) 2 = nI (hh v)) : ∀ (m k : Nat) (σ : zS), k + m = 4 → (∀ q j, (s ≤ q ∧ q < s + 25) → σ.1 q j = σ0.1 q j) → (∀ v, v < 4 → σ.2 (r + 4) v = r + 5 + 5 * v + 1) → (∀ v, v < 4 → σ.2 (s + 4) v = s + 5 + 5 * v + 1) → ∀ z, m < z → q_X4_copyFrom r s N z (nI k) σ ∧ (∀ v, k ≤ v → v < 4 → (∀ i, 1 ≤ i → i ≤ 11 → (l_X4_copyFrom r s N z (nI k) σ).1 (r + 5 + 5 * v) i = σ0.1 (s + 5 + 5 * v) i) ∧ (∀ i, i ≤ 3 → (l_X4_copyFrom r s N z (nI k) σ).1 (r + 6 + 5 * v) i = σ0.1 (s + 6 + 5 * v) i) ∧ (l_X4_copyFrom r s N z (nI k) σ).2 (r + 6 + 5 * v) 4 = 1000001 ∧ (∀ j, j < dd v * 4 → (l_X4_copyFrom r s N z (nI k) σ).1 (r + 7 + 5 * v) j = σ0.1 (s + 7 + 5 * v) j) ∧ (∀ j, j < dd v → (l_X4_copyFrom r s N z (nI k) σ).1 (r + 8 + 5 * v) j = σ0.1 (s + 8 + 5 * v) j) ∧ (∀ j, j < hh v → (l_X4_copyFrom r s N z (nI k) σ).1 (r + 9 + 5 * v) j = σ0.1 (s + 9 + 5 * v) j)) ∧ (∀ q j, (q < r + 5 + 5 * k ∨ r + 25 ≤ q) → (l_X4_copyFrom r s N z (nI k) σ).1 q j = σ.1 q j) ∧ (∀ q j, ¬ (j = 4 ∧ r + 5 + 5 * k ≤ q ∧ q < r + 25) → (l_X4_copyFrom r s N z (nI k) σ).2 q j = σ.2 q j) := by
  have b1 := hl.1
  have b2 := hls.1
  intro m
  induction m with
  | zero =>
    intro k σ hk _ _ _ z hz
    obtain ⟨z, rfl⟩ : ∃ y, z = y + 1 := ⟨z - 1, by omega⟩
    have c : (4 : Int32) ≤ nI k := nI_le (a := 4) (by omega) (by omega)
    rw [q_X4_copyFrom, l_X4_copyFrom, if_pos c]
    exact ⟨fun y => absurd c y, fun v h1 h2 => absurd h1 (by omega), fun _ _ _ => rfl, fun _ _ _ => rfl⟩
  | succ m ih =>
    intro k σ hk g1 g2 g3 z hz
    obtain ⟨z, rfl⟩ : ∃ y, z = y + 1 := ⟨z - 1, by omega⟩
    have c : ¬ (4 : Int32) ≤ nI k := nI_ge (b := 4) (by omega) (by decide)
    have k4 : k < 4 := by omega
    obtain ⟨d1, d2, d3, d4⟩ := hd k k4
    have e1 : σ.2 (r + 4) (nI k).toNatClampNeg - 1 = r + 5 + 5 * k := by
      rw [nI_clamp (by omega), g2 k k4]
      rfl
    have e2 : f_X4_taskAt s (nI k) σ = s + 5 + 5 * k := tk_eq g3 k4
    obtain ⟨t1, t2, t3, t4, t5, t6, t7, t8, t9⟩ := cl_ct (a := r + 5 + 5 * k) (b := s + 5 + 5 * k) (σ := σ) d1 d2 (by rw [g1 _ _ (by omega), show s + 5 + 5 * k + 1 = s + 6 + 5 * k by omega]; exact d3) (by rw [g1 _ _ (by omega), show s + 5 + 5 * k + 1 = s + 6 + 5 * k by omega]; exact d4) (by omega)
    have eu : u_X4_copyFrom_h0_1 r s N (nI k) σ = s_X5_copyFrom (r + 5 + 5 * k) (s + 5 + 5 * k) σ := by
      unfold u_X4_copyFrom_h0_1
      rw [e1, e2]
    rw [q_X4_copyFrom, l_X4_copyFrom, if_neg c, eu, e1, e2, nI_1]
    generalize s_X5_copyFrom (r + 5 + 5 * k) (s + 5 + 5 * k) σ = σ1 at t2 t3 t4 t5 t6 t7 t8 t9
    obtain ⟨i1, i2, i3, i4⟩ := ih (k + 1) σ1 (by omega) (fun q j hq => by rw [t8 _ _ (by omega)]; exact g1 q j hq) (fun v hv => by rw [t9 _ _ (by omega)]; exact g2 v hv) (fun v hv => by rw [t9 _ _ (by omega)]; exact g3 v hv) z (by omega)
    have hne : σ.2 (r + 4) (nI k).toNatClampNeg ≠ 0 := by
      rw [nI_clamp (by omega), g2 k k4]
      omega
    refine ⟨fun _ => ⟨vp_in_nI k4 (by decide), ⟨hne, hl.task k4⟩, tk_p hls g3 k4, t1, i1⟩, fun v h1 h2 => ?_, fun q j hq => ?_, fun q j hq => ?_⟩
    · by_cases cv : v = k
      · subst cv
        refine ⟨fun i i1' i2' => ?_, fun i hi => ?_, ?_, fun j hj => ?_, fun j hj => ?_, fun j hj => ?_⟩
        · rw [i3 _ _ (by omega), t2 i i1' i2', g1 _ _ (by omega)]
        · rw [i3 _ _ (by omega), show r + 6 + 5 * v = r + 5 + 5 * v + 1 by omega, t3 i hi, g1 _ _ (by omega), show s + 5 + 5 * v + 1 = s + 6 + 5 * v by omega]
        · rw [i4 _ _ (by omega), show r + 6 + 5 * v = r + 5 + 5 * v + 1 by omega]
          exact t4
        · rw [i3 _ _ (by omega), show r + 7 + 5 * v = r + 5 + 5 * v + 1 + 1 by omega, t5 j hj, g1 _ _ (by omega), show s + 5 + 5 * v + 1 + 1 = s + 7 + 5 * v by omega]
        · rw [i3 _ _ (by omega), show r + 8 + 5 * v = r + 5 + 5 * v + 1 + 2 by omega, t6 j hj, g1 _ _ (by omega), show s + 5 + 5 * v + 1 + 2 = s + 8 + 5 * v by omega]
        · rw [i3 _ _ (by omega), show r + 9 + 5 * v = r + 5 + 5 * v + 1 + 3 by omega, t7 j hj, g1 _ _ (by omega), show s + 5 + 5 * v + 1 + 3 = s + 9 + 5 * v by omega]
      · exact i2 v (by omega) h2
    · rw [i3 _ _ (by omega), t8 _ _ (by omega)]
    · rw [i4 _ _ (by omega), t9 _ _ (by omega)]
