/-! the parameters of a function -/
section IS
variable {N nb q b : Nat} {tx : Nat → Nat} {σ σ1 σ2 τ τ1 τ2 : zS}
def sPc (Q j : Nat) : Prop := (Q = 3 ∧ 2 ≤ j ∧ j ≤ 5) ∨ (Q = 2 ∧ (j = 2 ∨ j = 3 ∨ j = 7)) ∨ Q = 14 ∨ Q = 15
def sPm (Q j : Nat) : Prop := (Q = 468 ∧ ((20 ≤ j ∧ j ≤ 26) ∨ j = 32)) ∨ ((Q = 487 ∨ Q = 488) ∧ 6 ≤ j)
theorem rf_kname {s e k : Nat} (h21 : τ.1 468 21 = nI s) (h20 : τ.1 468 20 = nI e) (hse : s ≤ e) (hk : k < 10) : p_X9_keepName (nI k) τ ∧ s_X9_keepName (nI k) τ = zuI (zuI τ 487 k (nI s)) 488 k (nI (e - s)) := by
  refine ⟨vp_in_nI hk (by decide), ?_⟩
  unfold s_X9_keepName u_X9_keepName_2 u_X9_keepName_1
  rw [nI_clamp (by omega), gI_n (by omega), gI_n (by omega), h21, h20, pk_sub hse]
theorem pm_loop {m nf : Nat} {fa fl : Nat → Nat} (nf6 : nf < 6) (hN : 200000 < N) : ∀ (r np s e kd v w : Nat) (pa pl : Nat → Nat) (σ τ : zS), np + r = 4 → LNb nb tx q b m s e kd v w σ τ → NmF nb (nf + 1) fa fl σ τ → NmP nb np pa pl σ τ → σ.1 2 7 = nI np → τ.1 468 32 = nI np → σ.1 q 6 = nI (nf + 1) → (∀ z, ∃ c τf, 1 ≤ c ∧ c ≤ 5 ∧ q_X3_readParameters N (z + r + 1) (nI np) σ ∧ (l_X3_readParameters N (z + r + 1) (nI np) σ).1 = 0 ∧ FT (l_X3_readParameters N (z + r + 1) (nI np) σ).2 τf ∧ rfr sPc σ (l_X3_readParameters N (z + r + 1) (nI np) σ).2 ∧ rfr sPm τ τf ∧ ∀ z', 3 * r + 4 ≤ z' → q_X9_readDef N z' 2 (nI b) (nI nf) τ ∧ l_X9_readDef N z' 2 (nI b) (nI nf) τ = τf) ∨ (∃ np1 pa1 pl1 σ1 τ1 s1 e1 kd1 v1 w1, np1 ≤ 4 ∧ ¬ kd1 = 303 ∧ LNb nb tx q b m s1 e1 kd1 v1 w1 σ1 τ1 ∧ NmF nb (nf + 1) fa fl σ1 τ1 ∧ NmP nb np1 pa1 pl1 σ1 τ1 ∧ σ1.1 2 7 = nI np1 ∧ τ1.1 468 32 = nI np1 ∧ rfr sPc σ σ1 ∧ rfr sPm τ τ1 ∧ s ≤ s1 ∧ (∀ z, q_X3_readParameters N (z + r + 1) (nI np) σ ∧ l_X3_readParameters N (z + r + 1) (nI np) σ = (1, zuI σ1 (q + 2) nf (nI np1))) ∧ ∀ z', 3 * r + 4 ≤ z' → l_X9_readDef N z' 2 (nI b) (nI nf) τ = u_X9_readDef_h2_6 N (nI b) (nI nf) τ1 ∧ ((p_X9_need 61 N τ1 ∧ vp_in ((6 * nI b) + nI nf) 12 ∧ vp_in (nI b) 2 ∧ p_X9_readBody (nI b) N (u_X9_readDef_h2_4 N (nI b) (nI nf) τ1) ∧ p_X9_lay (nI b) 13 0 (u_X9_readDef_h2_5 N (nI b) (nI nf) τ1)) → q_X9_readDef N z' 2 (nI b) (nI nf) τ)) := by
  have n10 : ¬ (1 : Int32) = 0 := by decide
  intro r
  induction r with
  | zero =>
    intro np s e kd v w pa pl σ τ hr h hF hP h7 h32 h6
    obtain rfl : np = 4 := by omega
    have h0 := h
    obtain ⟨sl, h33, h21⟩ := h.s1
    obtain ⟨a1, a2, ⟨qq, q3, b2⟩, hT, h25, -, -⟩ := h
    have hkd := hT.kd
    have er : σ.2 2 1 - 1 = q := by rw [qq]; rfl
    have nz : σ.2 2 1 ≠ 0 := by rw [qq]; omega
    have hl := ly_q q3
    have n4 : ¬ (4 : Int32) < nI 4 := by decide
    have e6 : σ.1 q 6 - 1 = nI nf := by rw [h6, nI_s1 (by omega)]; rfl
    have hnm : f_X9_isName τ = if kd = 303 then 1 else 0 := rk_name hT h25
    by_cases k : kd = 303
    · left
      intro z
      have hk : σ.1 3 2 = 303 := by rw [hT.2.2.2.2.2.1, k]; rfl
      rw [if_pos k] at hnm
      have nnm : ¬ f_X9_isName τ = 0 := by rw [hnm]; exact n10
      have h34 : σ.1 3 4 = nI e := hT.2.2.2.2.2.2.2.1
      have h20 := hT.2.2.2.2.2.2.2.2.2.2.1
      obtain ⟨p1, p2, p3⟩ := pr_fname (N := N) (s := s) (e := e) a1 a2 hF qq hl h6 h21 h20 hT.1 hT.2.1 (by omega)
      obtain ⟨r1, r2, r3⟩ := pr_pname (N := N) (s := s) (e := e) a1 a2 hP h7 h32 h21 h20 hT.1 hT.2.1 (by omega)
      rw [← h33, ← h34] at p1 p3 r1 r3
      have ev : nI nf + 1 = nI (nf + 1) := by rw [nI_1]
      have fin : ∀ c, 1 ≤ c → c ≤ 5 → q_X3_readParameters N (z + 0 + 1) (nI 4) σ → l_X3_readParameters N (z + 0 + 1) (nI 4) σ = (0, zuI (zuI σ 2 2 (nI c)) 2 3 (σ.1 3 3)) → (∀ z', 4 ≤ z' → q_X9_readDef N z' 2 (nI b) (nI nf) τ ∧ l_X9_readDef N z' 2 (nI b) (nI nf) τ = s_X9_fail (nI c) τ) → ∃ c τf, 1 ≤ c ∧ c ≤ 5 ∧ q_X3_readParameters N (z + 0 + 1) (nI 4) σ ∧ (l_X3_readParameters N (z + 0 + 1) (nI 4) σ).1 = 0 ∧ FT (l_X3_readParameters N (z + 0 + 1) (nI 4) σ).2 τf ∧ rfr sPc σ (l_X3_readParameters N (z + 0 + 1) (nI 4) σ).2 ∧ rfr sPm τ τf ∧ ∀ z', 3 * 0 + 4 ≤ z' → q_X9_readDef N z' 2 (nI b) (nI nf) τ ∧ l_X9_readDef N z' 2 (nI b) (nI nf) τ = τf := fun c c1 c5 y1 y2 y3 => by
        have fl1 : FLm c τ (s_X9_fail (nI c) τ) := rf_fail h25
        obtain ⟨f1, -, -⟩ := ft2 (q := q) (b := b) (Z := fun _ => False) (c := c) (σ := σ) c1 c5 sl h33 fl1 h21
        refine ⟨c, s_X9_fail (nI c) τ, c1, c5, y1, by rw [y2], by rw [y2]; exact f1, ?_, ?_, fun z' hz' => y3 z' (by omega)⟩
        · rw [y2]
          exact (rfr.rf.uI (Or.inr (Or.inl ⟨rfl, Or.inl rfl⟩))).uI (Or.inr (Or.inl ⟨rfl, Or.inr (Or.inl rfl)⟩))
        · rw [rf_fail h25]
          exact (rfr.rf.uI (Or.inl ⟨rfl, Or.inl ⟨by omega, by omega⟩⟩)).uI (Or.inl ⟨rfl, Or.inl ⟨by omega, by omega⟩⟩)
      have h4b : ∀ c y, 1 ≤ c → c ≤ 5 → q_X9_readDef N (y + 1) 4 (nI b) (nI nf) (s_X9_fail (nI c) τ) ∧ l_X9_readDef N (y + 1) 4 (nI b) (nI nf) (s_X9_fail (nI c) τ) = s_X9_fail (nI c) τ := fun c y c1 c5 => by
        have nf5 : ¬ (s_X9_fail (nI c) τ).1 468 25 ≤ 0 := by
          rw [rf_fail h25, gI_n (by omega), gI_h rfl rfl]
          exact nI_nle (by omega) (by omega)
        rw [q_X9_readDef, l_X9_readDef, if_neg nf5]
        exact ⟨fun y => absurd y nf5, rfl⟩
      rcases p3 with ⟨z1, z2⟩ | ⟨f, fn, z1, z2⟩
      · rcases r3 with ⟨u1, u2⟩ | ⟨p, pn, u1, u2⟩
        · -- the fifth
          refine fin 5 (by decide) (by decide) ?_ ?_ (fun z' hz' => ?_)
          · rw [q_X3_readParameters]
            exact ⟨fun y => absurd y n4, fun _ => ⟨fun y => absurd hk y, fun _ => ⟨p1, fun _ => ⟨r1, fun _ y => absurd y (by rw [h7]; decide)⟩⟩⟩⟩
          · rw [l_X3_readParameters, if_neg n4, if_pos hk, z1, if_pos rfl, u1, if_pos rfl, if_neg (by rw [h7]; decide)]
            rfl
          · obtain ⟨y, rfl⟩ : ∃ y, z' = y + 1 + 1 := ⟨z' - 2, by omega⟩
            obtain ⟨d1, d2⟩ := h4b 5 y (by decide) (by decide)
            have c4 : τ.1 468 32 = 4 := h32
            refine ⟨?_, ?_⟩
            · rw [q_X9_readDef, ev, z2, u2]
              exact ⟨fun y => absurd y nnm, fun _ => ⟨p2, fun y => absurd y (by decide), fun _ => ⟨r2, fun _ => ⟨fun y => absurd c4 y, fun _ => d1⟩, fun y => absurd (by decide) y⟩⟩⟩
            · rw [l_X9_readDef, if_neg nnm, ev, z2, if_neg (by decide), u2, if_pos (by decide), if_pos c4]
              exact d2
        · refine fin 3 (by decide) (by decide) ?_ ?_ (fun z' hz' => ?_)
          · have np' : ¬ nI p = -1 := fun y => nI_pos (n := p) (by omega) (by rw [y]; decide)
            rw [q_X3_readParameters]
            exact ⟨fun y => absurd y n4, fun _ => ⟨fun y => absurd hk y, fun _ => ⟨p1, fun _ => ⟨r1, fun y => absurd (u1.symm.trans y) np'⟩⟩⟩⟩
          · have np' : ¬ nI p = -1 := fun y => nI_pos (n := p) (by omega) (by rw [y]; decide)
            rw [l_X3_readParameters, if_neg n4, if_pos hk, z1, if_pos rfl, u1, if_neg np']
            rfl
          · obtain ⟨y, rfl⟩ : ∃ y, z' = y + 1 + 1 + 1 := ⟨z' - 3, by omega⟩
            obtain ⟨d1, d2⟩ := h4b 3 y (by decide) (by decide)
            have nl : ¬ nI p < 0 := nI_pos (by omega)
            have q3' : q_X9_readDef N (y + 1 + 1) 3 (nI b) (nI nf) τ := by
              rw [q_X9_readDef]
              exact d1
            refine ⟨?_, ?_⟩
            · rw [q_X9_readDef, ev, z2, u2]
              exact ⟨fun y => absurd y nnm, fun _ => ⟨p2, fun y => absurd y (by decide), fun _ => ⟨r2, fun y => absurd y nl, fun _ => q3'⟩⟩⟩
            · rw [l_X9_readDef, if_neg nnm, ev, z2, if_neg (by decide), u2, if_neg nl, l_X9_readDef]
              exact d2
      · refine fin 3 (by decide) (by decide) ?_ ?_ (fun z' hz' => ?_)
        · have np' : ¬ nI f = -1 := fun y => nI_pos (n := f) (by omega) (by rw [y]; decide)
          rw [q_X3_readParameters]
          exact ⟨fun y => absurd y n4, fun _ => ⟨fun y => absurd hk y, fun _ => ⟨p1, fun y => absurd (z1.symm.trans y) np'⟩⟩⟩
        · have np' : ¬ nI f = -1 := fun y => nI_pos (n := f) (by omega) (by rw [y]; decide)
          rw [l_X3_readParameters, if_neg n4, if_pos hk, z1, if_neg np']
          rfl
        · obtain ⟨y, rfl⟩ : ∃ y, z' = y + 1 + 1 + 1 := ⟨z' - 3, by omega⟩
          obtain ⟨d1, d2⟩ := h4b 3 y (by decide) (by decide)
          have c0 : (0 : Int32) ≤ nI f := nI_pos' (by omega)
          have q3' : q_X9_readDef N (y + 1 + 1) 3 (nI b) (nI nf) τ := by
            rw [q_X9_readDef]
            exact d1
          refine ⟨?_, ?_⟩
          · rw [q_X9_readDef, ev, z2]
            exact ⟨fun y => absurd y nnm, fun _ => ⟨p2, fun _ => q3', fun y => absurd c0 y⟩⟩
          · rw [l_X9_readDef, if_neg nnm, ev, z2, if_pos c0, l_X9_readDef]
            exact d2
    · right
      have hk : ¬ σ.1 3 2 = 303 := by
        rw [hT.2.2.2.2.2.1]
        exact fun y => k ((nI_eq (b := 303) (by omega) (by decide)).mp y)
      rw [if_neg k] at hnm
      refine ⟨4, pa, pl, σ, τ, s, e, kd, v, w, by omega, k, h0, hF, hP, h7, h32, rfr.rf, rfr.rf, Nat.le_refl _, fun z => ⟨?_, ?_⟩, fun z' hz' => ?_⟩
      · rw [q_X3_readParameters, er]
        exact ⟨fun y => absurd y n4, fun _ => ⟨fun _ => ⟨⟨nz, hl⟩, put_p (by decide)⟩, fun y => absurd y hk⟩⟩
      · rw [l_X3_readParameters, if_neg n4, if_neg hk]
        unfold u_X3_readParameters_h0_2
        rw [er, e6, h7, put_i nf6 (by decide)]
      · obtain ⟨y, rfl⟩ : ∃ y, z' = y + 1 := ⟨z' - 1, by omega⟩
        refine ⟨?_, fun y => ?_⟩
        · rw [l_X9_readDef, if_pos hnm]
        · rw [q_X9_readDef]
          exact ⟨fun _ => y, fun y => absurd hnm y⟩
  | succ r ih =>
    intro np s e kd v w pa pl σ τ hr h hF hP h7 h32 h6
    have h0 := h
    obtain ⟨sl, h33, h21⟩ := h.s1
    obtain ⟨a1, a2, ⟨qq, q3, b2⟩, hT, h25, -, -⟩ := h
    have hkd := hT.kd
    have er : σ.2 2 1 - 1 = q := by rw [qq]; rfl
    have nz : σ.2 2 1 ≠ 0 := by rw [qq]; omega
    have hl := ly_q q3
    have n4 : ¬ (4 : Int32) < nI np := nI_nlt (a := 4) (by omega) (by decide)
    have e6 : σ.1 q 6 - 1 = nI nf := by rw [h6, nI_s1 (by omega)]; rfl
    have hnm : f_X9_isName τ = if kd = 303 then 1 else 0 := rk_name hT h25
    by_cases k : kd = 303
    · have hk : σ.1 3 2 = 303 := by rw [hT.2.2.2.2.2.1, k]; rfl
      rw [if_pos k] at hnm
      have nnm : ¬ f_X9_isName τ = 0 := by rw [hnm]; exact n10
      have h34 : σ.1 3 4 = nI e := hT.2.2.2.2.2.2.2.1
      have h20 := hT.2.2.2.2.2.2.2.2.2.2.1
      obtain ⟨p1, p2, p3⟩ := pr_fname (N := N) (s := s) (e := e) a1 a2 hF qq hl h6 h21 h20 hT.1 hT.2.1 (by omega)
      obtain ⟨r1, r2, r3⟩ := pr_pname (N := N) (s := s) (e := e) a1 a2 hP h7 h32 h21 h20 hT.1 hT.2.1 (by omega)
      rw [← h33, ← h34] at p1 p3 r1 r3
      have ev : nI nf + 1 = nI (nf + 1) := by rw [nI_1]
      have fin : (∀ z, q_X3_readParameters N (z + (r + 1) + 1) (nI np) σ ∧ l_X3_readParameters N (z + (r + 1) + 1) (nI np) σ = (0, zuI (zuI σ 2 2 (nI 3)) 2 3 (σ.1 3 3))) → (∀ z', 4 ≤ z' → q_X9_readDef N z' 2 (nI b) (nI nf) τ ∧ l_X9_readDef N z' 2 (nI b) (nI nf) τ = s_X9_fail (nI 3) τ) → ∀ z, ∃ c τf, 1 ≤ c ∧ c ≤ 5 ∧ q_X3_readParameters N (z + (r + 1) + 1) (nI np) σ ∧ (l_X3_readParameters N (z + (r + 1) + 1) (nI np) σ).1 = 0 ∧ FT (l_X3_readParameters N (z + (r + 1) + 1) (nI np) σ).2 τf ∧ rfr sPc σ (l_X3_readParameters N (z + (r + 1) + 1) (nI np) σ).2 ∧ rfr sPm τ τf ∧ ∀ z', 3 * (r + 1) + 4 ≤ z' → q_X9_readDef N z' 2 (nI b) (nI nf) τ ∧ l_X9_readDef N z' 2 (nI b) (nI nf) τ = τf := fun y1 y3 z => by
        obtain ⟨y1, y2⟩ := y1 z
        have fl1 : FLm 3 τ (s_X9_fail (nI 3) τ) := rf_fail h25
        obtain ⟨f1, -, -⟩ := ft2 (q := q) (b := b) (Z := fun _ => False) (c := 3) (σ := σ) (by decide) (by decide) sl h33 fl1 h21
        refine ⟨3, s_X9_fail (nI 3) τ, by decide, by decide, y1, by rw [y2], by rw [y2]; exact f1, ?_, ?_, fun z' hz' => y3 z' (by omega)⟩
        · rw [y2]
          exact (rfr.rf.uI (Or.inr (Or.inl ⟨rfl, Or.inl rfl⟩))).uI (Or.inr (Or.inl ⟨rfl, Or.inr (Or.inl rfl)⟩))
        · rw [rf_fail h25]
          exact (rfr.rf.uI (Or.inl ⟨rfl, Or.inl ⟨by omega, by omega⟩⟩)).uI (Or.inl ⟨rfl, Or.inl ⟨by omega, by omega⟩⟩)
      have h4b : ∀ y, q_X9_readDef N (y + 1) 4 (nI b) (nI nf) (s_X9_fail (nI 3) τ) ∧ l_X9_readDef N (y + 1) 4 (nI b) (nI nf) (s_X9_fail (nI 3) τ) = s_X9_fail (nI 3) τ := fun y => by
        have nf5 : ¬ (s_X9_fail (nI 3) τ).1 468 25 ≤ 0 := by
          rw [rf_fail h25, gI_n (by omega), gI_h rfl rfl]
          decide
        rw [q_X9_readDef, l_X9_readDef, if_neg nf5]
        exact ⟨fun y => absurd y nf5, rfl⟩
      rcases p3 with ⟨z1, z2⟩ | ⟨f, fn, z1, z2⟩
      · rcases r3 with ⟨u1, u2⟩ | ⟨p, pn, u1, u2⟩
        · -- one more parameter
          have lt4 : σ.1 2 7 < 4 := by rw [h7]; exact nI_lt (b := 4) (by omega) (by decide)
          have n32 : ¬ τ.1 468 32 = 4 := by
            rw [h32]
            exact fun y => by have := (nI_eq (b := 4) (by omega) (by decide)).mp y; omega
          generalize hσa : zuI (zuI (zuI σ 14 np (nI s)) 15 np (nI e)) 2 7 (nI (np + 1)) = σa
          have eu6 : u_X3_readParameters_h0_6 N (nI np) σ = σa := by
            unfold u_X3_readParameters_h0_6 u_X3_readParameters_h0_5 u_X3_readParameters_h0_4
            rw [h7, h33, put_i (by omega) (by decide), gI_n (by omega), h7, gI_n (by omega), h34, put_i (by omega) (by decide), gI_n (by omega), gI_n (by omega), h7, nI_1, hσa]
          obtain ⟨kp, ke⟩ := rf_kname (k := 6 + np) h21 h20 hT.1 (by omega)
          have e32 : (6 : Int32) + τ.1 468 32 = nI (6 + np) := by rw [h32, show (6 : Int32) = nI 6 from rfl, nI_add]
          generalize hτa : zuI (zuI (zuI τ 487 (6 + np) (nI s)) 488 (6 + np) (nI (e - s))) 468 32 (nI (np + 1)) = τa
          have eh2 : u_X9_readDef_h4_2 N (nI b) (nI nf) τ = τa := by
            unfold u_X9_readDef_h4_2 u_X9_readDef_h4_1
            rw [e32, ke, gI_n (by omega), gI_n (by omega), h32, nI_1, hτa]
          have oσ : ∀ Q j, ¬ ((Q = 14 ∧ j = np) ∨ (Q = 15 ∧ j = np) ∨ (Q = 2 ∧ j = 7)) → σa.1 Q j = σ.1 Q j := fun Q j y => by rw [← hσa, gI_n (by omega), gI_n (by omega), gI_n (by omega)]
          have oτ : ∀ Q j, ¬ (((Q = 487 ∨ Q = 488) ∧ j = 6 + np) ∨ (Q = 468 ∧ j = 32)) → τa.1 Q j = τ.1 Q j := fun Q j y => by rw [← hτa, gI_n (by omega), gI_n (by omega), gI_n (by omega)]
          have ha : LNb nb tx q b m s e kd v w σa τa := h0.eq (fun Q j y => oσ _ _ (by omega)) (by rw [← hσa]; rfl) (fun Q j y => oτ _ _ (by omega))
          obtain ⟨i1, i2, i3, i4, s2, e2, kd2, v2, w2, h2, h2e⟩ := st_next ha hN
          have cN : ∀ Q j, ¬ Q = 3 → (s_X6_next N σa).1 Q j = σa.1 Q j := fun Q j y => i3.2 _ _ (fun z => y z.1)
          have mN : ∀ Q j, ¬ (Q = 468 ∧ 20 ≤ j ∧ j ≤ 24) → (s_X9_scan N τa).1 Q j = τa.1 Q j := i4.2
          have hF2 : NmF nb (nf + 1) fa fl (s_X6_next N σa) (s_X9_scan N τa) := ⟨hF.1, fun i hi => by
            obtain ⟨x0, x1, x2, x3, x4⟩ := hF.2 i hi
            exact ⟨x0, by rw [cN _ _ (by omega), oσ _ _ (by omega)]; exact x1, by rw [cN _ _ (by omega), oσ _ _ (by omega)]; exact x2, by rw [mN _ _ (by omega), oτ _ _ (by omega)]; exact x3, by rw [mN _ _ (by omega), oτ _ _ (by omega)]; exact x4⟩⟩
          have hen := hT.2.1
          have hse := hT.1
          have hP2 : NmP nb (np + 1) (fun i => if i = np then s else pa i) (fun i => if i = np then e - s else pl i) (s_X6_next N σa) (s_X9_scan N τa) := ⟨by omega, fun i hi => by
            dsimp only
            by_cases ci : i = np
            · subst ci
              rw [if_pos rfl, if_pos rfl, show s + (e - s) = e by omega]
              refine ⟨hen, ?_, ?_, ?_, ?_⟩
              · rw [cN _ _ (by omega), ← hσa, gI_n (by omega), gI_n (by omega)]; exact gI_h rfl rfl
              · rw [cN _ _ (by omega), ← hσa, gI_n (by omega)]; exact gI_h rfl rfl
              · rw [mN _ _ (by omega), ← hτa, gI_n (by omega), gI_n (by omega)]; exact gI_h rfl rfl
              · rw [mN _ _ (by omega), ← hτa, gI_n (by omega)]; exact gI_h rfl rfl
            · rw [if_neg ci, if_neg ci]
              obtain ⟨x0, x1, x2, x3, x4⟩ := hP.2 i (by omega)
              exact ⟨x0, by rw [cN _ _ (by omega), oσ _ _ (by omega)]; exact x1, by rw [cN _ _ (by omega), oσ _ _ (by omega)]; exact x2, by rw [mN _ _ (by omega), oτ _ _ (by omega)]; exact x3, by rw [mN _ _ (by omega), oτ _ _ (by omega)]; exact x4⟩⟩
          have fC : rfr sPc σ (s_X6_next N σa) := (show rfr sPc σ σa from ⟨by rw [← hσa]; rfl, fun Q j y => oσ Q j (fun z => y (by unfold sPc; omega))⟩).tr (i3.wk (fun Q j y => Or.inl y))
          have fM : rfr sPm τ (s_X9_scan N τa) := (show rfr sPm τ τa from ⟨by rw [← hτa]; rfl, fun Q j y => oτ Q j (fun z => y (by unfold sPm; omega))⟩).tr (i4.wk (fun Q j y => Or.inl ⟨y.1, Or.inl ⟨y.2.1, by have := y.2.2; omega⟩⟩))
          have ih' := ih (np + 1) s2 e2 kd2 v2 w2 (fun i => if i = np then s else pa i) (fun i => if i = np then e - s else pl i) (s_X6_next N σa) (s_X9_scan N τa) (by omega) h2 hF2 hP2 (by rw [cN _ _ (by omega), ← hσa]; exact gI_h rfl rfl) (by rw [mN _ _ (by omega), ← hτa]; exact gI_h rfl rfl) (by rw [cN _ _ (by omega), oσ _ _ (by omega)]; exact h6)
          have lc : ∀ z, l_X3_readParameters N (z + (r + 1) + 1) (nI np) σ = l_X3_readParameters N (z + r + 1) (nI (np + 1)) (s_X6_next N σa) := fun z => by
            rw [show z + (r + 1) + 1 = (z + r + 1) + 1 by omega, l_X3_readParameters, if_neg n4, if_pos hk, z1, if_pos rfl, u1, if_pos rfl, if_pos lt4, nI_1]
            unfold u_X3_readParameters_h0_7
            rw [eu6]
          have qc : ∀ z, q_X3_readParameters N (z + r + 1) (nI (np + 1)) (s_X6_next N σa) → q_X3_readParameters N (z + (r + 1) + 1) (nI np) σ := fun z y => by
            rw [show z + (r + 1) + 1 = (z + r + 1) + 1 by omega, q_X3_readParameters, nI_1]
            unfold u_X3_readParameters_h0_7
            rw [eu6]
            exact ⟨fun y => absurd y n4, fun _ => ⟨fun y => absurd hk y, fun _ => ⟨p1, fun _ => ⟨r1, fun _ _ => ⟨put_p (by decide), put_p (by decide), i1, y⟩⟩⟩⟩⟩
          have z0 : (0 : Int32) ≤ 0 := by decide
          have lr : ∀ y, l_X9_readDef N (y + 1 + 1) 2 (nI b) (nI nf) τ = l_X9_readDef N y 2 (nI b) (nI nf) (s_X9_scan N τa) := fun y => by
            rw [l_X9_readDef, if_neg nnm, ev, z2, if_neg (by decide), u2, if_pos (by decide), if_neg n32, l_X9_readDef, h25, if_pos z0]
            unfold u_X9_readDef_h4_3
            rw [eh2]
          have qr : ∀ y, q_X9_readDef N y 2 (nI b) (nI nf) (s_X9_scan N τa) → q_X9_readDef N (y + 1 + 1) 2 (nI b) (nI nf) τ := fun y hy => by
            have q4 : q_X9_readDef N (y + 1) 4 (nI b) (nI nf) τ := by
              rw [q_X9_readDef, e32]
              unfold u_X9_readDef_h4_3
              rw [eh2]
              exact fun _ => ⟨kp, i2, hy⟩
            rw [q_X9_readDef, ev, z2, u2]
            exact ⟨fun y => absurd y nnm, fun _ => ⟨p2, fun y => absurd y (by decide), fun _ => ⟨r2, fun _ => ⟨fun _ => q4, fun y => absurd y n32⟩, fun y => absurd (by decide) y⟩⟩⟩
          rcases ih' with y | ⟨np1, pa1, pl1, σ1, τ1, s1, e1, kd1, v1, w1, b1, b2', b3, b4, b5, b6, b7, b8, b9, b10, b11, b12⟩
          · left
            intro z
            obtain ⟨c, τf, c1, c5, y1, y2, y3, y4, y5, y6⟩ := y z
            refine ⟨c, τf, c1, c5, qc z y1, by rw [lc]; exact y2, by rw [lc]; exact y3, by rw [lc]; exact fC.tr y4, fM.tr y5, fun z' hz' => ?_⟩
            obtain ⟨y, rfl⟩ : ∃ y, z' = y + 1 + 1 := ⟨z' - 2, by omega⟩
            obtain ⟨d1, d2⟩ := y6 y (by omega)
            rw [lr]
            exact ⟨qr y d1, d2⟩
          · right
            refine ⟨np1, pa1, pl1, σ1, τ1, s1, e1, kd1, v1, w1, b1, b2', b3, b4, b5, b6, b7, fC.tr b8, fM.tr b9, by omega, fun z => ⟨qc z (b11 z).1, by rw [lc]; exact (b11 z).2⟩, fun z' hz' => ?_⟩
            obtain ⟨y, rfl⟩ : ∃ y, z' = y + 1 + 1 := ⟨z' - 2, by omega⟩
            obtain ⟨d1, d2⟩ := b12 y (by omega)
            rw [lr]
            exact ⟨d1, fun g => qr y (d2 g)⟩
        · left
          refine fin (fun z => ⟨?_, ?_⟩) (fun z' hz' => ?_)
          · have np' : ¬ nI p = -1 := fun y => nI_pos (n := p) (by omega) (by rw [y]; decide)
            rw [q_X3_readParameters]
            exact ⟨fun y => absurd y n4, fun _ => ⟨fun y => absurd hk y, fun _ => ⟨p1, fun _ => ⟨r1, fun y => absurd (u1.symm.trans y) np'⟩⟩⟩⟩
          · have np' : ¬ nI p = -1 := fun y => nI_pos (n := p) (by omega) (by rw [y]; decide)
            rw [l_X3_readParameters, if_neg n4, if_pos hk, z1, if_pos rfl, u1, if_neg np']
            rfl
          · obtain ⟨y, rfl⟩ : ∃ y, z' = y + 1 + 1 + 1 := ⟨z' - 3, by omega⟩
            obtain ⟨d1, d2⟩ := h4b y
            have nl : ¬ nI p < 0 := nI_pos (by omega)
            have q3' : q_X9_readDef N (y + 1 + 1) 3 (nI b) (nI nf) τ := by
              rw [q_X9_readDef]
              exact d1
            refine ⟨?_, ?_⟩
            · rw [q_X9_readDef, ev, z2, u2]
              exact ⟨fun y => absurd y nnm, fun _ => ⟨p2, fun y => absurd y (by decide), fun _ => ⟨r2, fun y => absurd y nl, fun _ => q3'⟩⟩⟩
            · rw [l_X9_readDef, if_neg nnm, ev, z2, if_neg (by decide), u2, if_neg nl, l_X9_readDef]
              exact d2
      · left
        refine fin (fun z => ⟨?_, ?_⟩) (fun z' hz' => ?_)
        · have np' : ¬ nI f = -1 := fun y => nI_pos (n := f) (by omega) (by rw [y]; decide)
          rw [q_X3_readParameters]
          exact ⟨fun y => absurd y n4, fun _ => ⟨fun y => absurd hk y, fun _ => ⟨p1, fun y => absurd (z1.symm.trans y) np'⟩⟩⟩
        · have np' : ¬ nI f = -1 := fun y => nI_pos (n := f) (by omega) (by rw [y]; decide)
          rw [l_X3_readParameters, if_neg n4, if_pos hk, z1, if_neg np']
          rfl
        · obtain ⟨y, rfl⟩ : ∃ y, z' = y + 1 + 1 + 1 := ⟨z' - 3, by omega⟩
          obtain ⟨d1, d2⟩ := h4b y
          have c0 : (0 : Int32) ≤ nI f := nI_pos' (by omega)
          have q3' : q_X9_readDef N (y + 1 + 1) 3 (nI b) (nI nf) τ := by
            rw [q_X9_readDef]
            exact d1
          refine ⟨?_, ?_⟩
          · rw [q_X9_readDef, ev, z2]
            exact ⟨fun y => absurd y nnm, fun _ => ⟨p2, fun _ => q3', fun y => absurd c0 y⟩⟩
          · rw [l_X9_readDef, if_neg nnm, ev, z2, if_pos c0, l_X9_readDef]
            exact d2
    · right
      have hk : ¬ σ.1 3 2 = 303 := by
        rw [hT.2.2.2.2.2.1]
        exact fun y => k ((nI_eq (b := 303) (by omega) (by decide)).mp y)
      rw [if_neg k] at hnm
      refine ⟨np, pa, pl, σ, τ, s, e, kd, v, w, by omega, k, h0, hF, hP, h7, h32, rfr.rf, rfr.rf, Nat.le_refl _, fun z => ⟨?_, ?_⟩, fun z' hz' => ?_⟩
      · rw [q_X3_readParameters, er]
        exact ⟨fun y => absurd y n4, fun _ => ⟨fun _ => ⟨⟨nz, hl⟩, put_p (by decide)⟩, fun y => absurd y hk⟩⟩
      · rw [l_X3_readParameters, if_neg n4, if_neg hk]
        unfold u_X3_readParameters_h0_2
        rw [er, e6, h7, put_i nf6 (by decide)]
      · obtain ⟨y, rfl⟩ : ∃ y, z' = y + 1 := ⟨z' - 1, by omega⟩
        refine ⟨?_, fun y => ?_⟩
        · rw [l_X9_readDef, if_pos hnm]
        · rw [q_X9_readDef]
          exact ⟨fun _ => y, fun y => absurd hnm y⟩
end IS
