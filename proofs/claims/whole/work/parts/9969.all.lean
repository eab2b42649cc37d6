/-! the loop over the lines -/
section IS
variable {N nb q b : Nat} {tx : Nat → Nat} {σ σ1 σ2 τ τ1 τ2 : zS}
/-- a line that begins with no such word -/
theorem hd_no {s e kd v w : Nat} (h : LHD nb tx q b s e kd v w σ τ) (kk : ¬ (310 ≤ kd ∧ kd ≤ 315)) : p_X9_readLine (nI b) N τ ∧ p_X9_need 59 N (s_X9_readLine (nI b) N τ) ∧ LNE nb tx q b e (r_X3_refuseToken σ) σ τ (s_X9_need 59 N (s_X9_readLine (nI b) N τ)) := by
  obtain ⟨m, nf, fa, fl, K, H, L, u, n, tf, gv, h1, -⟩ := h
  have n10 : ¬ (1 : Int32) = 0 := by decide
  have h25 := h1.2.2.2.2.1
  obtain ⟨sl, h33, h21⟩ := h1.s1
  have w0 : f_X9_isWord 0 τ = if kd = 310 + 0 then 1 else 0 := rk_word (c := 0) h1.2.2.2.1 h25 (by decide)
  rw [if_neg (by omega)] at w0
  have w1 : f_X9_isWord 1 τ = if kd = 310 + 1 then 1 else 0 := rk_word (c := 1) h1.2.2.2.1 h25 (by decide)
  rw [if_neg (by omega)] at w1
  have w2 : f_X9_isWord 2 τ = if kd = 310 + 2 then 1 else 0 := rk_word (c := 2) h1.2.2.2.1 h25 (by decide)
  rw [if_neg (by omega)] at w2
  have w3 : f_X9_isWord 3 τ = if kd = 310 + 3 then 1 else 0 := rk_word (c := 3) h1.2.2.2.1 h25 (by decide)
  rw [if_neg (by omega)] at w3
  have w4 : f_X9_isWord 4 τ = if kd = 310 + 4 then 1 else 0 := rk_word (c := 4) h1.2.2.2.1 h25 (by decide)
  rw [if_neg (by omega)] at w4
  have w5 : f_X9_isWord 5 τ = if kd = 310 + 5 then 1 else 0 := rk_word (c := 5) h1.2.2.2.1 h25 (by decide)
  rw [if_neg (by omega)] at w5
  have fl : FLm 1 τ (s_X9_fail 1 τ) := rf_fail (c := 1) h25
  obtain ⟨f1, f2, f3⟩ := ft2 (q := q) (b := b) (Z := fun _ => False) (c := 1) (by decide) (by decide) sl h33 fl h21
  have es : s_X9_readLine (nI b) N τ = s_X9_fail 1 τ := by
    unfold s_X9_readLine
    rw [w0, w1, w2, w3, w4, w5, if_pos rfl, if_pos rfl, if_pos rfl, if_pos rfl, if_pos rfl, if_pos rfl]
    rfl
  have er : r_X3_refuseToken σ = (0, zuI (zuI σ 2 2 (nI 1)) 2 3 (σ.1 3 3)) := rfl
  rw [es, er]
  have f1' := f1
  obtain ⟨c, p, c1, c2, c3, c4, c5, c6, c7⟩ := f1
  obtain ⟨d1, d2⟩ := rf_need_bad (N := N) (x := 59) c1 c2 c6
  rw [d2]
  refine ⟨?_, d1, Or.inl ⟨rfl, f1', zc_l f2, zm_l f3⟩⟩
  unfold p_X9_readLine
  rw [w0, w1, w2, w3, w4, w5]
  exact ⟨fun _ => ⟨fun _ => ⟨fun _ => ⟨fun _ => ⟨fun _ y => absurd rfl y, fun y => absurd rfl y⟩, fun y => absurd rfl y⟩, fun y => absurd rfl y⟩, fun y => absurd rfl y⟩, fun y => absurd rfl y⟩
/-- a line, whatever it begins with -/
theorem hd_any {s e kd v w q1 n2 q2 : Nat} (h : LHD nb tx q b s e kd v w σ τ) (k0 : ¬ kd = 300) (hN : 200000 < N) : ∃ r : Int32 × zS, (∀ (z : Nat) (v3 v5 : Int32), ¬ 1000 < v5 → l_X3_readStore q1 n2 q2 N (z + 1) v3 1 v5 σ = l_X3_readStore q1 n2 q2 N z v3 r.1 (v5 + 1) r.2 ∧ (q_X3_readStore q1 n2 q2 N z v3 r.1 (v5 + 1) r.2 → q_X3_readStore q1 n2 q2 N (z + 1) v3 1 v5 σ)) ∧ p_X9_readLine (nI b) N τ ∧ p_X9_need 59 N (s_X9_readLine (nI b) N τ) ∧ LNE nb tx q b e r σ τ (s_X9_need 59 N (s_X9_readLine (nI b) N τ)) := by
  have n10 : ¬ (1 : Int32) = 0 := by decide
  have hT : TKs tx nb s e kd v w σ τ := by
    obtain ⟨m, nf, fa, fl, K, H, L, u, n, tf, gv, h1, -⟩ := h
    exact h1.2.2.2.1
  have hkd := hT.kd
  have s32 : σ.1 3 2 = nI kd := hT.2.2.2.2.2.1
  have ne : ∀ c, c < 400 → ¬ kd = c → ¬ σ.1 3 2 = nI c := fun c hc y z => by
    rw [s32] at z
    exact y ((nI_eq (by omega) (by omega)).mp z)
  have n300 : ¬ σ.1 3 2 = 300 := ne 300 (by decide) k0
  by_cases k0 : kd = 310
  · obtain ⟨x1, x2, x3, x4⟩ := hd_win h k0 hN
    have e0 : σ.1 3 2 = 310 := by rw [s32, k0]; rfl
    refine ⟨r_X3_readWindows N σ, fun z v3 v5 hv => ⟨?_, fun hq => ?_⟩, x2, x3, x4⟩
    · rw [l_X3_readStore, if_neg hv, if_neg n10, if_neg n300, if_pos e0]
      rfl
    · rw [q_X3_readStore]
      exact ⟨fun y => absurd y hv, fun _ => ⟨fun y => absurd y n10, fun _ => ⟨fun y => absurd y n300, fun _ => ⟨fun _ => ⟨x1, hq⟩, fun y => absurd e0 y⟩⟩⟩⟩
  have n310 : ¬ σ.1 3 2 = 310 := ne 310 (by decide) k0
  by_cases k1 : kd = 311
  · obtain ⟨x1, x2, x3, x4⟩ := hd_han h k1 hN
    have e1 : σ.1 3 2 = 311 := by rw [s32, k1]; rfl
    refine ⟨r_X3_readHandler N σ, fun z v3 v5 hv => ⟨?_, fun hq => ?_⟩, x2, x3, x4⟩
    · rw [l_X3_readStore, if_neg hv, if_neg n10, if_neg n300, if_neg n310, if_pos e1]
      rfl
    · rw [q_X3_readStore]
      exact ⟨fun y => absurd y hv, fun _ => ⟨fun y => absurd y n10, fun _ => ⟨fun y => absurd y n300, fun _ => ⟨fun y => absurd y n310, fun _ => ⟨fun _ => ⟨x1, hq⟩, fun y => absurd e1 y⟩⟩⟩⟩⟩
  have n311 : ¬ σ.1 3 2 = 311 := ne 311 (by decide) k1
  by_cases k2 : kd = 312
  · obtain ⟨x1, x2, x3, x4⟩ := hd_sli h k2 hN
    have e2 : σ.1 3 2 = 312 := by rw [s32, k2]; rfl
    refine ⟨r_X3_readSlice N σ, fun z v3 v5 hv => ⟨?_, fun hq => ?_⟩, x2, x3, x4⟩
    · rw [l_X3_readStore, if_neg hv, if_neg n10, if_neg n300, if_neg n310, if_neg n311, if_pos e2]
      rfl
    · rw [q_X3_readStore]
      exact ⟨fun y => absurd y hv, fun _ => ⟨fun y => absurd y n10, fun _ => ⟨fun y => absurd y n300, fun _ => ⟨fun y => absurd y n310, fun _ => ⟨fun y => absurd y n311, fun _ => ⟨fun _ => ⟨x1, hq⟩, fun y => absurd e2 y⟩⟩⟩⟩⟩⟩
  have n312 : ¬ σ.1 3 2 = 312 := ne 312 (by decide) k2
  by_cases k3 : kd = 313
  · obtain ⟨x1, x2, x3, x4⟩ := hd_pri h k3 hN
    have e3 : σ.1 3 2 = 313 := by rw [s32, k3]; rfl
    refine ⟨r_X3_readPrice N σ, fun z v3 v5 hv => ⟨?_, fun hq => ?_⟩, x2, x3, x4⟩
    · rw [l_X3_readStore, if_neg hv, if_neg n10, if_neg n300, if_neg n310, if_neg n311, if_neg n312, if_pos e3]
      rfl
    · rw [q_X3_readStore]
      exact ⟨fun y => absurd y hv, fun _ => ⟨fun y => absurd y n10, fun _ => ⟨fun y => absurd y n300, fun _ => ⟨fun y => absurd y n310, fun _ => ⟨fun y => absurd y n311, fun _ => ⟨fun y => absurd y n312, fun _ => ⟨fun _ => ⟨x1, hq⟩, fun y => absurd e3 y⟩⟩⟩⟩⟩⟩⟩
  have n313 : ¬ σ.1 3 2 = 313 := ne 313 (by decide) k3
  by_cases k4 : kd = 314
  · obtain ⟨x1, x2, x3, x4⟩ := hd_def h k4 hN
    have e4 : σ.1 3 2 = 314 := by rw [s32, k4]; rfl
    refine ⟨r_X3_readFunction N σ, fun z v3 v5 hv => ⟨?_, fun hq => ?_⟩, x2, x3, x4⟩
    · rw [l_X3_readStore, if_neg hv, if_neg n10, if_neg n300, if_neg n310, if_neg n311, if_neg n312, if_neg n313, if_pos e4]
      rfl
    · rw [q_X3_readStore]
      exact ⟨fun y => absurd y hv, fun _ => ⟨fun y => absurd y n10, fun _ => ⟨fun y => absurd y n300, fun _ => ⟨fun y => absurd y n310, fun _ => ⟨fun y => absurd y n311, fun _ => ⟨fun y => absurd y n312, fun _ => ⟨fun y => absurd y n313, fun _ => ⟨fun _ => ⟨x1, hq⟩, fun y => absurd e4 y⟩⟩⟩⟩⟩⟩⟩⟩
  have n314 : ¬ σ.1 3 2 = 314 := ne 314 (by decide) k4
  by_cases k5 : kd = 315
  · obtain ⟨x1, x2, x3, x4⟩ := hd_task h k5 hN
    have e5 : σ.1 3 2 = 315 := by rw [s32, k5]; rfl
    refine ⟨r_X3_readTask N σ, fun z v3 v5 hv => ⟨?_, fun hq => ?_⟩, x2, x3, x4⟩
    · rw [l_X3_readStore, if_neg hv, if_neg n10, if_neg n300, if_neg n310, if_neg n311, if_neg n312, if_neg n313, if_neg n314, if_pos e5]
      rfl
    · rw [q_X3_readStore]
      exact ⟨fun y => absurd y hv, fun _ => ⟨fun y => absurd y n10, fun _ => ⟨fun y => absurd y n300, fun _ => ⟨fun y => absurd y n310, fun _ => ⟨fun y => absurd y n311, fun _ => ⟨fun y => absurd y n312, fun _ => ⟨fun y => absurd y n313, fun _ => ⟨fun y => absurd y n314, fun _ => ⟨fun _ => ⟨x1, hq⟩, fun y => absurd e5 y⟩⟩⟩⟩⟩⟩⟩⟩⟩
  have n315 : ¬ σ.1 3 2 = 315 := ne 315 (by decide) k5
  obtain ⟨x2, x3, x4⟩ := hd_no (N := N) h (by omega)
  refine ⟨r_X3_refuseToken σ, fun z v3 v5 hv => ⟨?_, fun hq => ?_⟩, x2, x3, x4⟩
  · rw [l_X3_readStore, if_neg hv, if_neg n10, if_neg n300, if_neg n310, if_neg n311, if_neg n312, if_neg n313, if_neg n314, if_neg n315]
    rfl
  · rw [q_X3_readStore]
    exact ⟨fun y => absurd y hv, fun _ => ⟨fun y => absurd y n10, fun _ => ⟨fun y => absurd y n300, fun _ => ⟨fun y => absurd y n310, fun _ => ⟨fun y => absurd y n311, fun _ => ⟨fun y => absurd y n312, fun _ => ⟨fun y => absurd y n313, fun _ => ⟨fun y => absurd y n314, fun _ => ⟨fun y => absurd y n315, fun _ => hq⟩⟩⟩⟩⟩⟩⟩⟩⟩
def RDR (nb : Nat) (tx : Nat → Nat) (q b : Nat) (r : Int32 × zS) (σ τ τ1 : zS) : Prop := rfr (sLc q) σ r.2 ∧ rfr (sLm b) τ τ1 ∧ ((r.1 = 0 ∧ FT r.2 τ1) ∨ (r.1 = 1 ∧ ∃ s e v w, LHD nb tx q b s e 300 v w r.2 τ1))
theorem rd_stop {s e v w q1 n2 q2 i z z' : Nat} {v3 : Int32} (h : LHD nb tx q b s e 300 v w σ τ) (i1 : i ≤ 1000) : q_X3_readStore q1 n2 q2 N (z + 1) v3 1 (nI i) σ ∧ q_X9_readAll N (z' + 1) (nI b) τ ∧ RDR nb tx q b (l_X3_readStore q1 n2 q2 N (z + 1) v3 1 (nI i) σ) σ τ (l_X9_readAll N (z' + 1) (nI b) τ) := by
  have n10 : ¬ (1 : Int32) = 0 := by decide
  have h0 := h
  obtain ⟨m, nf, fa, fl, K, H, L, u, n, tf, gv, h1, -⟩ := h
  have hT := h1.2.2.2.1
  have h25 := h1.2.2.2.2.1
  have s32 : σ.1 3 2 = 300 := hT.2.2.2.2.2.1
  have t22 : τ.1 468 22 = 0 := (hT.tok (by decide)).2.mpr rfl
  have hv : ¬ (1000 : Int32) < nI i := nI_nlt (a := 1000) (by omega) (by decide)
  rw [q_X3_readStore, q_X9_readAll, l_X3_readStore, l_X9_readAll, if_neg hv, if_neg n10, if_pos s32, if_pos h25, if_pos t22]
  exact ⟨⟨fun y => absurd y hv, fun _ => ⟨fun y => absurd y n10, fun _ => ⟨fun _ => Or.inr rfl, fun y => absurd s32 y⟩⟩⟩, fun _ y => absurd t22 y, rfr.rf, rfr.rf, Or.inr ⟨rfl, s, e, v, w, h0⟩⟩
theorem rd_loop {q1 n2 q2 : Nat} {v3 : Int32} (hN : 200000 < N) : ∀ (k s e kd v w i : Nat) (σ τ : zS), LHD nb tx q b s e kd v w σ τ → nb ≤ s + k → i ≤ s → ∀ z z', k + 2 ≤ z → k + 2 ≤ z' → q_X3_readStore q1 n2 q2 N z v3 1 (nI i) σ ∧ q_X9_readAll N z' (nI b) τ ∧ RDR nb tx q b (l_X3_readStore q1 n2 q2 N z v3 1 (nI i) σ) σ τ (l_X9_readAll N z' (nI b) τ) := by
  intro k
  induction k with
  | zero =>
    intro s e kd v w i σ τ h hk hi z z' hz hz'
    obtain ⟨z, rfl⟩ : ∃ y, z = y + 1 := ⟨z - 1, by omega⟩
    obtain ⟨z', rfl⟩ : ∃ y, z' = y + 1 := ⟨z' - 1, by omega⟩
    have h0 := h
    obtain ⟨m, nf, fa, fl, K, H, L, u, n, tf, gv, h1, -⟩ := h
    have hT := h1.2.2.2.1
    have hnb := h1.1.2.2.1
    obtain ⟨t1, t2, t3, t4, -⟩ := hT
    by_cases c : kd = 300
    · subst c
      exact rd_stop h0 (by omega)
    · exact absurd (t4 c) (by omega)
  | succ k ih =>
    intro s e kd v w i σ τ h hk hi z z' hz hz'
    obtain ⟨z, rfl⟩ : ∃ y, z = y + 1 := ⟨z - 1, by omega⟩
    obtain ⟨z', rfl⟩ : ∃ y, z' = y + 1 := ⟨z' - 1, by omega⟩
    have h0 := h
    obtain ⟨m, nf, fa, fl, K, H, L, u, n, tf, gv, h1, -⟩ := h
    have hT := h1.2.2.2.1
    have h25 := h1.2.2.2.2.1
    have hnb := h1.1.2.2.1
    by_cases c : kd = 300
    · subst c
      exact rd_stop h0 (by have := hT.1; have := hT.2.1; omega)
    · have t22 : ¬ τ.1 468 22 = 0 := fun y => c ((hT.tok (by have := hT.kd; omega)).2.mp y)
      have se := hT.2.2.2.1 c
      have en := hT.2.1
      have hv : ¬ (1000 : Int32) < nI i := nI_nlt (a := 1000) (by omega) (by decide)
      obtain ⟨⟨ra, rs⟩, st, x2, x3, x4⟩ := hd_any (q1 := q1) (n2 := n2) (q2 := q2) h0 c hN
      obtain ⟨st1, st2⟩ := st z v3 (nI i) hv
      rw [st1, q_X9_readAll, l_X9_readAll, if_pos h25, if_neg t22]
      rcases x4 with ⟨a1, a2, a3, a4⟩ | ⟨a1, a2, a3, s1, e1, kd1, v1, w1, a4, a5⟩
      · have a1 : ra = 0 := a1
        subst a1
        obtain ⟨z, rfl⟩ : ∃ y, z = y + 1 := ⟨z - 1, by omega⟩
        obtain ⟨z', rfl⟩ : ∃ y, z' = y + 1 := ⟨z' - 1, by omega⟩
        have el : l_X3_readStore q1 n2 q2 N (z + 1) v3 0 (nI i + 1) rs = (0, rs) := by
          rw [l_X3_readStore]
          by_cases y : 1000 < nI i + 1
          · rw [if_pos y]
          · rw [if_neg y, if_pos rfl]
        have eq : q_X3_readStore q1 n2 q2 N (z + 1) v3 0 (nI i + 1) rs := by
          rw [q_X3_readStore]
          exact ⟨fun _ => Or.inl rfl, fun _ => ⟨fun _ => Or.inl rfl, fun y => absurd rfl y⟩⟩
        obtain ⟨c0, p, c1, c2, c3, c4, c5, c6, c7⟩ := a2
        have nz : ¬ (u_X9_readAll_h0_2 N (nI b) τ).1 468 25 = 0 := fun y => (show ¬ nI c0 = 0 from nI_ne0 (by omega) (by omega)) (c6.symm.trans y)
        have em : l_X9_readAll N (z' + 1) (nI b) (u_X9_readAll_h0_2 N (nI b) τ) = u_X9_readAll_h0_2 N (nI b) τ := by
          rw [l_X9_readAll, if_neg nz]
        have eqm : q_X9_readAll N (z' + 1) (nI b) (u_X9_readAll_h0_2 N (nI b) τ) := by
          rw [q_X9_readAll]
          exact fun y => absurd y nz
        refine ⟨st2 eq, fun _ _ => ⟨x2, x3, eqm⟩, ?_⟩
        rw [em]
        show RDR nb tx q b (l_X3_readStore q1 n2 q2 N (z + 1) v3 0 (nI i + 1) rs) σ τ _
        rw [el]
        exact ⟨a3, a4, Or.inl ⟨rfl, c0, p, c1, c2, c3, c4, c5, c6, c7⟩⟩
      · have a1 : ra = 1 := a1
        subst a1
        obtain ⟨i1, i2, i3⟩ := ih s1 e1 kd1 v1 w1 (i + 1) rs (s_X9_need 59 N (s_X9_readLine (nI b) N τ)) a4 (by omega) (by omega) z z' (by omega) (by omega)
        rw [← nI_1 i] at i1 i3
        exact ⟨st2 i1, fun _ _ => ⟨x2, x3, i2⟩, a2.tr i3.1, a3.tr i3.2.1, i3.2.2⟩
end IS
