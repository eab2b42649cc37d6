/-! a ring copied whole; a ring set anew; handlers, prices, slices changed -/
theorem cl_copy {r s N : Nat} {σ : zS} {dd hh : Nat → Nat} (hN : 500 < N) (hl : Rly r) (hls : Rly s) (hrs : r + 25 ≤ s ∨ s + 25 ≤ r) (hpr : ∀ v, v < 4 → σ.2 (r + 4) v = r + 5 + 5 * v + 1) (hps : ∀ v, v < 4 → σ.2 (s + 4) v = s + 5 + 5 * v + 1) (hd : ∀ v, v < 4 → dd v ≤ 60 ∧ hh v ≤ 1680 ∧ σ.1 (s + 6 + 5 * v) 0 = nI (dd v) ∧ σ.1 (s + 6 + 5 * v) 2 = nI (hh v)) : p_X4_copyFrom r s N σ ∧ Cpy σ s (s_X4_copyFrom r s N σ) r ∧ zfr r (r + 25) σ (s_X4_copyFrom r s N σ) ∧ (∀ q j, ¬ (j = 4 ∧ r + 5 ≤ q ∧ q < r + 25) → (s_X4_copyFrom r s N σ).2 q j = σ.2 q j) := by
  have b1 := hl.1
  have b2 := hls.1
  have e13 : u_X4_copyFrom_13 r s N σ = zuI (zuI (zuI (zuI (zuI (zuI (zuI (zuI (zuI (zuI (zuI (zuI (zuI σ r 0 (σ.1 s 0)) r 1 (σ.1 s 1)) r 2 (σ.1 s 2)) r 3 (σ.1 s 3)) r 4 (σ.1 s 4)) r 5 (σ.1 s 5)) r 6 (σ.1 s 6)) r 7 (σ.1 s 7)) r 8 (σ.1 s 8)) r 9 (σ.1 s 9)) r 10 (σ.1 s 10)) r 11 (σ.1 s 11)) r 12 (σ.1 s 12) := by
    unfold u_X4_copyFrom_13 u_X4_copyFrom_12 u_X4_copyFrom_11 u_X4_copyFrom_10 u_X4_copyFrom_9 u_X4_copyFrom_8 u_X4_copyFrom_7 u_X4_copyFrom_6 u_X4_copyFrom_5 u_X4_copyFrom_4 u_X4_copyFrom_3 u_X4_copyFrom_2 u_X4_copyFrom_1
    simp (disch := omega) only [gI_n]
  have k13 : ∀ k, k < 13 → (u_X4_copyFrom_13 r s N σ).1 r k = σ.1 s k := fun k hk => by
    rw [e13]
    rcases (show k = 0 ∨ k = 1 ∨ k = 2 ∨ k = 3 ∨ k = 4 ∨ k = 5 ∨ k = 6 ∨ k = 7 ∨ k = 8 ∨ k = 9 ∨ k = 10 ∨ k = 11 ∨ k = 12 by omega) with rfl | rfl | rfl | rfl | rfl | rfl | rfl | rfl | rfl | rfl | rfl | rfl | rfl <;> simp (disch := omega) only [gI_n, gI_h]
  have n13 : ∀ q j, ¬ q = r → (u_X4_copyFrom_13 r s N σ).1 q j = σ.1 q j := fun q j hq => by
    rw [e13]
    simp (disch := omega) only [gI_n]
  have r13 : (u_X4_copyFrom_13 r s N σ).2 = σ.2 := by
    rw [e13]
    rfl
  have e16 : u_X4_copyFrom_16 r s N σ = zcpy (zcpy (zcpy (u_X4_copyFrom_13 r s N σ) (s + 1) (r + 1) 0 0 12) (s + 2) (r + 2) 0 0 12) (s + 3) (r + 3) 0 0 100 := rfl
  have es : s_X4_copyFrom r s N σ = l_X4_copyFrom r s N N (nI 0) (u_X4_copyFrom_16 r s N σ) := rfl
  have ep : p_X4_copyFrom r s N σ = q_X4_copyFrom r s N N (nI 0) (u_X4_copyFrom_16 r s N σ) := rfl
  rw [es, ep, e16]
  generalize u_X4_copyFrom_13 r s N σ = σ13 at k13 n13 r13
  have n16 : ∀ q j, (q < r ∨ r + 4 ≤ q) → (zcpy (zcpy (zcpy σ13 (s + 1) (r + 1) 0 0 12) (s + 2) (r + 2) 0 0 12) (s + 3) (r + 3) 0 0 100).1 q j = σ.1 q j := fun q j hq => by rw [zcpy_o (by omega), zcpy_o (by omega), zcpy_o (by omega), n13 _ _ (by omega)]
  have k0 : ∀ k, k < 13 → (zcpy (zcpy (zcpy σ13 (s + 1) (r + 1) 0 0 12) (s + 2) (r + 2) 0 0 12) (s + 3) (r + 3) 0 0 100).1 r k = σ.1 s k := fun k hk => by rw [zcpy_o (by omega), zcpy_o (by omega), zcpy_o (by omega), k13 k hk]
  have k1 : ∀ j, j < 12 → (zcpy (zcpy (zcpy σ13 (s + 1) (r + 1) 0 0 12) (s + 2) (r + 2) 0 0 12) (s + 3) (r + 3) 0 0 100).1 (r + 1) j = σ.1 (s + 1) j := fun j hj => by rw [zcpy_o (by omega), zcpy_o (by omega), zcpy_in hj, n13 _ _ (by omega)]
  have k2 : ∀ j, j < 12 → (zcpy (zcpy (zcpy σ13 (s + 1) (r + 1) 0 0 12) (s + 2) (r + 2) 0 0 12) (s + 3) (r + 3) 0 0 100).1 (r + 2) j = σ.1 (s + 2) j := fun j hj => by rw [zcpy_o (by omega), zcpy_in hj, zcpy_o (by omega), n13 _ _ (by omega)]
  have k3 : ∀ j, j < 100 → (zcpy (zcpy (zcpy σ13 (s + 1) (r + 1) 0 0 12) (s + 2) (r + 2) 0 0 12) (s + 3) (r + 3) 0 0 100).1 (r + 3) j = σ.1 (s + 3) j := fun j hj => by rw [zcpy_in hj, zcpy_o (by omega), zcpy_o (by omega), n13 _ _ (by omega)]
  have r16 : (zcpy (zcpy (zcpy σ13 (s + 1) (r + 1) 0 0 12) (s + 2) (r + 2) 0 0 12) (s + 3) (r + 3) 0 0 100).2 = σ.2 := r13
  generalize zcpy (zcpy (zcpy σ13 (s + 1) (r + 1) 0 0 12) (s + 2) (r + 2) 0 0 12) (s + 3) (r + 3) 0 0 100 = σ16 at n16 k0 k1 k2 k3 r16
  obtain ⟨c1, c2, c3, c4⟩ := cl_cts (N := N) hl hls hrs hd 4 0 σ16 rfl (fun q j hq => n16 q j (by omega)) (fun v hv => by rw [r16]; exact hpr v hv) (fun v hv => by rw [r16]; exact hps v hv) N (by omega)
  generalize l_X4_copyFrom r s N N (nI 0) σ16 = σ2 at c2 c3 c4
  refine ⟨c1, ⟨fun k hk => (c3 _ _ (by omega)).trans (k0 k hk), fun j hj => ⟨(c3 _ _ (by omega)).trans (k1 j hj), (c3 _ _ (by omega)).trans (k2 j hj)⟩, fun j hj => (c3 _ _ (by omega)).trans (k3 j hj), fun v hv => (c2 v (by omega) hv).1, fun v hv => ⟨(c2 v (by omega) hv).2.1, (c2 v (by omega) hv).2.2.1, fun d h hd1 hh1 g1 g2 => ?_⟩, fun v hv => ?_⟩, fun q hq => ⟨funext fun j => ?_, funext fun j => ?_⟩, fun q j hq => ?_⟩
  · obtain ⟨d1, d2, d3, d4⟩ := hd v hv
    have ed : d = dd v := (nI_eq (by omega) (by omega)).mp (g1.symm.trans d3)
    have eh : h = hh v := (nI_eq (by omega) (by omega)).mp (g2.symm.trans d4)
    rw [ed, eh]
    exact (c2 v (by omega) hv).2.2.2
  · rw [c4 _ _ (by omega), r16]
    exact hpr v hv
  · rw [c3 _ _ (by omega), n16 _ _ (by omega)]
  · rw [c4 _ _ (by omega), r16]
  · rw [c4 _ _ (by omega), r16]
/-- what acts may set in a ring without a turn of it -/
theorem RX.set {m sl sl1 al r q1 B W n L F e T M : Nat} {K : aK} {H tf D RS TP ST : Nat → Nat} {gv : Nat → Nat → Int32} {dT dM : Int32} {σ σ1 τ τ1 : zS} {A A1 : Nat → Int32} {C : Nat → aC} (h : RX m sl al r q1 B W n K L F H tf gv dT dM e T M σ τ A D RS TP ST C) (hs : ∀ q j, ¬ (q = r ∧ (j = 2 ∨ j = 3 ∨ j = 4 ∨ j = 5 ∨ j = 6 ∨ j = 8)) → ¬ (∃ v, v < 4 ∧ q = r + 5 + 5 * v ∧ (j = 6 ∨ j = 7)) → σ1.1 q j = σ.1 q j) (hr : σ1.2 = σ.2) (ht : rfr sN τ τ1) (hA : ∀ i, ¬ (4 ≤ i ∧ i ≤ 9) → ¬ (∃ v, v < 4 ∧ (i = 141 + 20 * v ∨ i = 142 + 20 * v)) → A1 i = A i) (h4 : A 4 = 0 → A1 4 = 0) (hC : CRel sl1 al σ1 r A1) (hM : MRel τ1 A1) (hh : WFh A1) (hg : ∀ v, v < 4 → (∃ c, c ≤ 3 ∧ A1 (141 + 20 * v) = nI c) ∧ ∃ g, g ≤ 16 ∧ (A1 (142 + 20 * v) = nI g ∨ A1 (142 + 20 * v) = -(nI g))) (hsl : sl1 = 1 ∨ ∃ t0, ∀ v, v < n → ¬ v = t0 → 2 ≤ ST v) : RX m sl1 al r q1 B W n K L F H tf gv dT dM e T M σ1 τ1 A1 D RS TP ST C := by
  obtain ⟨a1, a2, a3, a4, a5, a6, a7, a8, a9, a10, a11, a12, a13, a14, a15, a16, a17, a18, a19, a20⟩ := h
  have s0 : ∀ q j, ¬ q = r → (∀ v, v < 4 → ¬ (q = r + 5 + 5 * v ∧ (j = 6 ∨ j = 7))) → σ1.1 q j = σ.1 q j := fun q j h1 h2 => hs q j (fun z => h1 z.1) (fun ⟨v, z1, z2⟩ => h2 v z1 z2)
  have sr : ∀ j, ¬ (j = 2 ∨ j = 3 ∨ j = 4 ∨ j = 5 ∨ j = 6 ∨ j = 8) → σ1.1 r j = σ.1 r j := fun j h1 => hs r j (fun z => h1 z.2) (fun ⟨v, z1, z2⟩ => by omega)
  have sc : ∀ v, v < 4 → ∀ q j, ((r + 6 + 5 * v ≤ q ∧ q < r + 6 + 5 * v + 4) ∨ q < r ∨ r + 25 ≤ q) → σ1.1 q j = σ.1 q j := fun v hv q j hq => s0 q j (by omega) (fun u hu z => by omega)
  have aw : ∀ i, ¬ (4 ≤ i ∧ i ≤ 9) → (∀ v, v < 4 → ¬ (i = 141 + 20 * v ∨ i = 142 + 20 * v)) → A1 i = A i := fun i h1 h2 => hA i h1 (fun ⟨v, z1, z2⟩ => h2 v z1 z2)
  obtain ⟨w1, w2, w3, w4⟩ := a8
  refine ⟨a1, ⟨(sr 0 (by omega)).trans a2.1, (sr 1 (by omega)).trans a2.2.1, by rw [hr]; exact a2.2.2⟩, hC, a4.eq (sr _ (by omega)) (sr _ (by omega)) (fun j => s0 _ _ (by omega) (fun v hv z => by omega)) (fun i hi => aw i (by omega) (fun v hv z => by omega)), fun v hv hv1 => (s0 _ _ (by omega) (fun u hu z => by omega)).trans (a5 v hv hv1), a6.fr ht (fun q j y => sN_W y), hM, ⟨w1, fun t ht4 => ?_, ?_, hh⟩, ?_, ?_, (a11.rf ht (fun q j z => by unfold sN at z; omega)).eq (fun q j m1 m2 => s0 _ _ (by omega) (fun v hv z => by omega)), ?_, fun v hv => ?_, fun v hv => ?_, fun v hv hv1 => ?_, fun v hv hv0 => ?_, fun hm v hv => by rw [hr]; exact a17 hm v hv, fun hm hal v hv hv2 => ?_, hsl, fun hm v hv => ?_⟩
  · obtain ⟨g1, g2, g3, g4, g5, g6, g7, g8, g9, -, -⟩ := w2 t ht4
    have z : ∀ i, (i = 136 + 20 * t ∨ i = 137 + 20 * t ∨ i = 138 + 20 * t ∨ i = 148 + 20 * t) → A1 i = A i := fun i hi => aw i (by omega) (fun v hv y => by omega)
    exact ⟨(z _ (by omega)).trans g1, g2, (z _ (by omega)).trans g3, g4, (z _ (by omega)).trans g5, g6, g7, g8, fun y => ⟨(z _ (by omega)).trans (g9 y).1, (g9 y).2⟩, (hg t ht4).1, (hg t ht4).2⟩
  · exact w3.eq w1.2 (fun t ht4 => WF.lim ⟨w1, w2, w3, w4⟩ ht4) (fun i i1 i2 => aw i (by omega) (fun v hv z => by omega))
  · rcases a9 with ⟨u1, u2⟩ | ⟨p, u1, u2, u3⟩
    · exact Or.inl ⟨(aw 10 (by omega) (fun v hv z => by omega)).trans u1, u2⟩
    · refine Or.inr ⟨p, u1, (aw 10 (by omega) (fun v hv z => by omega)).trans u2, ?_⟩
      rw [aw (12 + p) (by omega) (fun v hv z => by omega)]
      exact u3
  · rw [sr 12 (by omega), aw 10 (by omega) (fun v hv z => by omega)]
    exact a10
  · rw [aw 3 (by omega) (fun v hv z => by omega)]
    rcases a12 with ⟨u1, u2, u3⟩ | u
    · exact Or.inl ⟨u1, h4 u2, u3⟩
    · exact Or.inr u
  · obtain ⟨mo, u1, u2, u3, u4⟩ := a13 v hv
    exact ⟨mo, u1, u2, (aw _ (by omega) (fun w hw z => by omega)).trans u3, u4⟩
  · have := a14 v hv
    unfold Sx at this ⊢
    rw [s0 _ _ (by omega) (fun w hw z => by omega)]
    exact this
  · obtain ⟨z1, z2, z3, z4⟩ := a15 v hv hv1
    exact ⟨z1, z2, z3.fr z2.1.2 (tyC_h a11.1 z2) ht (fun j w => by unfold sN at w; omega), z4.eq (sc v hv) (by rw [hr])⟩
  · have n4 := a11.2.2.2.1
    obtain ⟨z1, z2⟩ := a16 v hv hv0
    refine ⟨?_, z2.eq (sc v (by omega)) (by rw [hr])⟩
    rw [ht.2 _ _ (fun w => by unfold sN at w; omega)]
    exact z1
  · rw [sc v hv _ _ (by omega), aw _ (by omega) (fun w hw z => by omega)]
    exact a18 hm hal v hv hv2
  · rw [sc v hv _ _ (by omega)]
    exact a20 hm v hv
/-- slices uncoupled, where one task alone is left -/
theorem RX.sl0 {m al r q1 B W n L F e T M : Nat} {K : aK} {H tf D RS TP ST : Nat → Nat} {gv : Nat → Nat → Int32} {dT dM : Int32} {σ τ : zS} {A : Nat → Int32} {C : Nat → aC} (h : RX m 1 al r q1 B W n K L F H tf gv dT dM e T M σ τ A D RS TP ST C) (hsl : ∃ t0, ∀ v, v < n → ¬ v = t0 → 2 ≤ ST v) : RX m 0 al r q1 B W n K L F H tf gv dT dM e T M σ τ A D RS TP ST C := by
  obtain ⟨a1, a2, a3, a4, a5, a6, a7, a8, a9, a10, a11, a12, a13, a14, a15, a16, a17, a18, a19, a20⟩ := h
  refine ⟨a1, a2, fun a k i hk => a3 a k i ?_, a4, a5, a6, a7, a8, a9, a10, a11, a12, a13, a14, a15, a16, a17, a18, Or.inr hsl, a20⟩
  unfold Lk at hk ⊢
  rcases hk with ⟨z1, z2⟩ | z | z | z | z
  · exact Or.inl ⟨z1, by omega⟩
  · exact Or.inr (Or.inl z)
  · exact Or.inr (Or.inr (Or.inl z))
  · exact Or.inr (Or.inr (Or.inr (Or.inl z)))
  · exact Or.inr (Or.inr (Or.inr (Or.inr z)))
/-! a new ring -/
def NR (σ : zS) (r W n : Nat) : Prop := CSt σ r W n ∧ (∀ k, k < 12 → σ.1 (r + 1) k = -1 ∧ σ.1 (r + 2) k = -1) ∧ σ.1 r 10 = 0 ∧ σ.1 r 11 = 0 ∧ σ.1 r 12 = -1 ∧ ∀ v, v < 4 → σ.1 (r + 5 + 5 * v) 2 = 0 ∧ σ.1 (r + 5 + 5 * v) 4 = 0 ∧ σ.1 (r + 5 + 5 * v) 5 = 0 ∧ σ.1 (r + 5 + 5 * v) 6 = 1 ∧ σ.1 (r + 5 + 5 * v) 7 = 0 ∧ σ.1 (r + 5 + 5 * v) 8 = 0 ∧ σ.1 (r + 5 + 5 * v) 9 = 0 ∧ σ.1 (r + 5 + 5 * v) 10 = 0 ∧ σ.1 (r + 5 + 5 * v) 11 = 0 ∧ σ.1 (r + 6 + 5 * v) 0 = 0 ∧ σ.1 (r + 6 + 5 * v) 2 = 0 ∧ σ.2 (r + 6 + 5 * v) 4 = 1000001
def NM (A : Nat → Int32) : Prop := A 10 = -1 ∧ (∀ w, w < 12 → A (12 + w) = -1 ∧ A (24 + w) = -1) ∧ ∀ v, v < 4 → A (141 + 20 * v) = 1 ∧ ∀ k, 1 ≤ k → k < 20 → ¬ k = 5 → A (136 + 20 * v + k) = 0
theorem rx_new {sl al r q1 B W n L F : Nat} {K : aK} {H tf ST : Nat → Nat} {gv : Nat → Nat → Int32} {dT dM : Int32} {σ τ : zS} {A : Nat → Int32} {C : Nat → aC} (hl : Rly r) (hq : q1 + 7 ≤ r ∨ r + 25 ≤ q1) (hN : NR σ r W n) (hK : WK τ B W n) (hM : MRel τ A) (hW : 2 ≤ W ∧ W ≤ 12) (hA : NM A) (hP : PK σ q1 τ B K L F H n tf gv) (h0 : ∀ v, v < 4 → τ.1 469 (236 + 2801 * v) = 0) (hh : WFh A) (c2 : σ.1 r 2 = A 6) (c3 : σ.1 r 3 = A 7) (c7 : σ.1 r 7 = A 3) (hs1 : sl = 1 → σ.1 r 6 = A 5 ∧ σ.1 r 8 = A 4) (hal : al = 0 → σ.1 r 4 = A 8 ∧ σ.1 r 5 = A 9 ∧ σ.1 r 9 = A 0 ∧ A 11 = 0) (hdT : A 1 = dT) (hdM : A 2 = dM) (htu : (A 3 = -1 ∧ A 4 = 0 ∧ ∀ v, v < n → 2 ≤ ST v) ∨ ∃ t, t < n ∧ A 3 = nI t ∧ ST t ≤ 1) (hST : ∀ v, v < 4 → (ST v = 0 ∨ (2 ≤ ST v ∧ ST v ≤ 3)) ∧ A (136 + 20 * v) = nI (ST v) ∧ Sx al σ r ST v) (hdo : al = 0 → ∀ v, v < 4 → ¬ ST v = 2) (hsl : sl = 1 ∨ ∃ t0, ∀ v, v < n → ¬ v = t0 → 2 ≤ ST v) : RX 0 sl al r q1 B W n K L F H tf gv dT dM 0 0 0 σ τ A (fun _ => 0) (fun _ => 0) (fun _ => 0) ST C := by
  obtain ⟨n1, n2, n3, n4, n5, n6⟩ := hN
  obtain ⟨m1, m2, m3⟩ := hA
  have n4' := hP.2.2.2.1
  have mz : ∀ v, v < 4 → ∀ i, (137 + 20 * v ≤ i ∧ i < 156 + 20 * v ∧ ¬ i = 141 + 20 * v) → A i = 0 := fun v hv i hi => by
    have := (m3 v hv).2 (i - (136 + 20 * v)) (by omega) (by omega) (by omega)
    rw [show 136 + 20 * v + (i - (136 + 20 * v)) = i by omega] at this
    exact this
  refine ⟨⟨hl, hq⟩, n1, fun a k i hk => ?_, ⟨n3, n4, ?_, ?_, fun z => ⟨(hal z).2.2.2, fun i k _ z2 => absurd z2 (by omega)⟩⟩, fun v hv z => absurd (show 1 ≤ 0 from z) (by decide), hK, hM, ⟨hW, fun t ht => ?_, ⟨fun w hw => Or.inl (m2 w (by omega)).1, fun t f _ z => absurd (show f < 0 from z) (Nat.not_lt_zero _)⟩, hh⟩, Or.inl ⟨m1, fun _ _ => rfl⟩, n5.trans m1.symm, hP, htu, fun v hv => ⟨0, by omega, Nat.le_refl _, mz v hv _ (by omega), fun _ => rfl⟩, fun v hv => (hST v hv).2.2, fun v hv z => ?_, fun v hv _ => ⟨h0 v (by omega), Or.inl ⟨rfl, (n6 v (by omega)).2.2.2.2.2.2.2.2.2.2.2⟩⟩, fun _ v hv => (n6 v hv).2.2.2.2.2.2.2.2.2.2.2, fun _ hal0 v hv z => absurd z (hdo hal0 v hv), hsl, fun _ v hv => ⟨0, by omega, (n6 v hv).2.2.2.2.2.2.2.2.2.2.1⟩⟩
  · unfold Lk at hk
    rcases hk with ⟨rfl, hk⟩ | ⟨rfl, hk, e⟩ | ⟨rfl, hk, e⟩ | ⟨t, ht, rfl, hk⟩ | ⟨t, ht, rfl, rfl, e⟩
    · rcases hk with ⟨rfl, rfl⟩ | ⟨rfl, rfl⟩ | ⟨rfl, rfl⟩ | ⟨y, rfl, rfl⟩ | ⟨y, rfl, rfl⟩ | ⟨y, rfl, rfl⟩ | ⟨y, rfl, rfl⟩ | ⟨y, rfl, rfl⟩
      · exact c2
      · exact c3
      · exact c7
      · exact (hs1 y).1
      · exact (hs1 y).2
      · exact (hal y).1
      · exact (hal y).2.1
      · exact (hal y).2.2.1
    · rw [e, (n2 k hk).1, (m2 k hk).1]
    · rw [e, (n2 k hk).2, (m2 k hk).2]
    · obtain ⟨d2, d4, d5, d6, d7, d8, d9, d10, d11, -⟩ := n6 t ht
      rcases hk with ⟨rfl, rfl⟩ | ⟨h1, h2, rfl⟩
      · rw [d2, mz t ht _ (by omega)]
      · rcases (show k = 4 ∨ k = 5 ∨ k = 6 ∨ k = 7 ∨ k = 8 ∨ k = 9 ∨ k = 10 ∨ k = 11 by omega) with rfl | rfl | rfl | rfl | rfl | rfl | rfl | rfl
        · rw [d4, mz t ht _ (by omega)]
        · rw [d5, mz t ht _ (by omega)]
        · rw [d6, show 135 + 20 * t + 6 = 141 + 20 * t by omega, (m3 t ht).1]
        · rw [d7, mz t ht _ (by omega)]
        · rw [d8, mz t ht _ (by omega)]
        · rw [d9, mz t ht _ (by omega)]
        · rw [d10, mz t ht _ (by omega)]
        · rw [d11, mz t ht _ (by omega)]
    · rw [e, (n6 t ht).2.2.2.2.2.2.2.2.2.1, mz t ht _ (by omega)]
  · rw [hdT]
    show dT = 0 + dT
    simp
  · rw [hdM]
    show dM = 0 + dM
    simp
  · obtain ⟨s1, s2, -⟩ := hST t ht
    exact ⟨s2, by omega, mz t ht _ (by omega), Nat.zero_le _, mz t ht _ (by omega), Nat.le_refl _, Nat.zero_le _, ⟨fun z => by omega, fun z => absurd (show 1 ≤ 0 from z) (by decide)⟩, fun z => absurd (show 1 ≤ 0 from z) (by decide), ⟨1, by omega, (m3 t ht).1⟩, 0, by omega, Or.inl (mz t ht _ (by omega))⟩
  · have := (hST v hv).1
    omega
