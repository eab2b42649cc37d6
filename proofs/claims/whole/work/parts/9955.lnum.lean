/-! lines: a number, a sign, a word told once -/
section IS
variable {N nb : Nat} {tx : Nat → Nat} {σ σ1 σ2 τ τ1 τ2 : zS}
/-- with a fault found the reference does nothing more -/
theorem rf_num_bad {c : Nat} {lo hi : Int32} (h1 : 1 ≤ c) (h2 : c ≤ 5) (h0 : τ.1 468 25 = nI c) : p_X9_numeral lo hi N τ ∧ (r_X9_numeral lo hi N τ).2 = τ := by
  have n0 : ¬ nI c = 0 := nI_ne0 (by omega) (by omega)
  have e2 : u_X9_numeral_2 lo hi N τ = τ := rf_fail2 h1 h2 h0
  have e4 : u_X9_numeral_4 lo hi N τ = τ := rf_fail2 h1 h2 h0
  unfold p_X9_numeral r_X9_numeral
  rw [e2, e4, h0]
  refine ⟨⟨fun _ => ⟨fun _ y => absurd y n0, fun _ y => absurd y n0⟩, fun _ y => absurd y n0⟩, ?_⟩
  rw [if_neg n0, if_neg n0, if_neg n0]
  split <;> (try split) <;> rfl
theorem rf_need_bad {c : Nat} {x : Int32} (h1 : 1 ≤ c) (h2 : c ≤ 5) (h0 : τ.1 468 25 = nI c) : p_X9_need x N τ ∧ s_X9_need x N τ = τ := by
  have n0 : ¬ τ.1 468 25 = 0 := by rw [h0]; exact nI_ne0 (by omega) (by omega)
  obtain ⟨a1, a2, -, -⟩ := rk_found (c := x) n0
  unfold p_X9_need s_X9_need
  rw [a1]
  refine ⟨⟨a2, fun y => absurd rfl y⟩, ?_⟩
  rw [if_pos rfl]
  exact rf_fail2 h1 h2 h0
/-- a number within bounds -/
theorem ln_num {s e kd v w lo hi : Nat} (hC : TC nb tx σ) (hM : TM nb tx τ) (hT : TKs tx nb s e kd v w σ τ) (h25 : τ.1 468 25 = 0) (hi4 : hi ≤ 9999) (hlo : lo ≤ hi) (hN : 200000 < N) : p_X3_readNumber (nI lo) (nI hi) N σ ∧ p_X9_numeral (nI lo) (nI hi) N τ ∧ ((∃ c, 1 ≤ c ∧ c ≤ 2 ∧ r_X3_readNumber (nI lo) (nI hi) N σ = (0, zuI (zuI σ 2 2 (nI c)) 2 3 (σ.1 3 3)) ∧ FLm c τ (r_X9_numeral (nI lo) (nI hi) N τ).2) ∨ (kd = 302 ∧ lo ≤ v ∧ v ≤ hi ∧ r_X3_readNumber (nI lo) (nI hi) N σ = (1, s_X6_next N (zuI σ 2 5 (nI v))) ∧ r_X9_numeral (nI lo) (nI hi) N τ = (nI v, s_X9_scan N τ) ∧ ∃ s1 e1 kd1 v1 w1, TKs tx nb s1 e1 kd1 v1 w1 (s_X6_next N (zuI σ 2 5 (nI v))) (s_X9_scan N τ) ∧ rfr sTC (zuI σ 2 5 (nI v)) (s_X6_next N (zuI σ 2 5 (nI v))) ∧ rfr sTM τ (s_X9_scan N τ) ∧ e ≤ s1)) := by
  have hn := hM.2.1
  have hkd := hT.kd
  have n10 : ¬ (1 : Int32) = 0 := by decide
  have ft := hT.tok (by omega)
  have vw := hT.2.2.2.2.1
  have nz : ∀ c, 1 ≤ c → c ≤ 5 → ¬ (s_X9_fail (nI c) τ).1 468 25 = 0 := fun c c1 c5 => by
    rw [rf_fail h25, gI_n (by omega), gI_h rfl rfl]
    exact nI_ne0 (by omega) (by omega)
  have nz1 : ¬ (s_X9_fail 1 τ).1 468 25 = 0 := nz 1 (by decide) (by decide)
  have nz2 : ¬ (s_X9_fail 2 τ).1 468 25 = 0 := nz 2 (by decide) (by decide)
  by_cases kk : kd = 302
  · have c2 : σ.1 3 2 = 302 := by rw [hT.2.2.2.2.2.1, kk]; rfl
    have c5 : σ.1 3 5 = nI v := hT.2.2.2.2.2.2.2.2.1 kk
    have v4 : v ≤ 10000 := by unfold nRl at vw; omega
    have w5 : w < 100000 := by unfold nRl at vw; omega
    have t3 : τ.1 468 22 = 3 := ft.1.mpr kk
    have en : τ.1 468 23 = nI w := by
      have h12 := hT.2.2.2.2.2.2.2.2.2.2.2
      unfold RK at h12
      rcases h12 with ⟨y1, y2⟩ | ⟨y1, y2⟩ | ⟨y1, y2, y3⟩ | ⟨y1, y2, y3⟩ | ⟨y1, y2, y3, y4⟩ | ⟨y1, y2, y3, y4⟩ <;> first | exact y3 | omega
    obtain ⟨r1, r2⟩ := cl_rnum (N := N) (lo := lo) (hi := hi) c2 c5 v4 hi4 hlo
    by_cases cr : lo ≤ v ∧ v ≤ hi
    · have ew : w = v := by unfold nRl at vw; omega
      subst ew
      have hC1 : TC nb tx (zuI σ 2 5 (nI w)) := hC.eq (fun Q jx y => gI_n (by omega)) rfl
      obtain ⟨n1, n2, -, s1, e1, kd1, v1, w1, t1, t2, t3', t4, -⟩ := pr_next (N := N) (p := e) hC1 hM ((gI_n (by omega)).trans hT.2.2.2.2.2.2.2.1) hT.2.2.2.2.2.2.2.2.2.2.1 hT.2.1 (by omega)
      obtain ⟨x1, x2⟩ := r2 cr.1 cr.2
      have ein : f_X9_isIn (nI w) (nI lo) (nI hi) = 1 := by
        unfold f_X9_isIn
        rw [if_neg (nI_nlt (by omega) (by omega)), if_neg (nI_nlt (by omega) (by omega))]
      refine ⟨x1 n1, ?_, Or.inr ⟨kk, cr.1, cr.2, x2, ?_, s1, e1, kd1, v1, w1, t1, t2, t3', t4⟩⟩
      · unfold p_X9_numeral
        rw [en, ein]
        exact ⟨fun _ => ⟨fun _ _ => n2, fun y => absurd y n10⟩, fun y => absurd t3 y⟩
      · unfold r_X9_numeral
        rw [if_pos t3, en, ein, if_neg n10, h25, if_pos rfl]
        rfl
    · have ew : ¬ (lo ≤ w ∧ w ≤ hi) := by unfold nRl at vw; omega
      obtain ⟨x1, x2⟩ := r1 (by omega)
      have ein : f_X9_isIn (nI w) (nI lo) (nI hi) = 0 := by
        unfold f_X9_isIn
        by_cases c : w < lo
        · rw [if_pos (nI_lt c (by omega))]
        · rw [if_neg (nI_nlt (by omega) (by omega)), if_pos (nI_lt (by omega) (by omega))]
      refine ⟨x1, ?_, Or.inl ⟨2, by decide, by decide, x2, ?_⟩⟩
      · unfold p_X9_numeral u_X9_numeral_2
        rw [en, ein]
        exact ⟨fun _ => ⟨fun y => absurd rfl y, fun _ y => absurd y nz2⟩, fun y => absurd t3 y⟩
      · unfold r_X9_numeral u_X9_numeral_2
        rw [if_pos t3, en, ein, if_pos rfl, if_neg nz2]
        exact rf_fail (c := 2) h25
  · have c2 : ¬ σ.1 3 2 = 302 := by
      rw [hT.2.2.2.2.2.1]
      exact fun y => kk ((nI_eq (b := 302) (by omega) (by decide)).mp y)
    have t3 : ¬ τ.1 468 22 = 3 := fun y => kk (ft.1.mp y)
    refine ⟨fun y => absurd y c2, ?_, Or.inl ⟨1, by decide, by decide, ?_, ?_⟩⟩
    · unfold p_X9_numeral u_X9_numeral_4
      exact ⟨fun y => absurd y t3, fun _ y => absurd y nz1⟩
    · unfold r_X3_readNumber
      rw [if_neg c2]
      rfl
    · unfold r_X9_numeral u_X9_numeral_4
      rw [if_neg t3, if_neg nz1]
      exact rf_fail (c := 1) h25
/-- a sign -/
theorem ln_sign {s e kd v w c : Nat} (hC : TC nb tx σ) (hM : TM nb tx τ) (hT : TKs tx nb s e kd v w σ τ) (h25 : τ.1 468 25 = 0) (hc : c < 128) (hN : 200000 < N) : p_X3_readSign (nI c) N σ ∧ p_X9_need (nI c) N τ ∧ ((¬ kd = c ∧ r_X3_readSign (nI c) N σ = (0, zuI (zuI σ 2 2 (nI 1)) 2 3 (σ.1 3 3)) ∧ FLm 1 τ (s_X9_need (nI c) N τ)) ∨ (kd = c ∧ r_X3_readSign (nI c) N σ = (1, s_X6_next N σ) ∧ s_X9_need (nI c) N τ = s_X9_scan N τ ∧ ∃ s1 e1 kd1 v1 w1, TKs tx nb s1 e1 kd1 v1 w1 (s_X6_next N σ) (s_X9_scan N τ) ∧ rfr sTC σ (s_X6_next N σ) ∧ rfr sTM τ (s_X9_scan N τ) ∧ e ≤ s1)) := by
  have hn := hM.2.1
  have hkd := hT.kd
  have n10 : ¬ (1 : Int32) = 0 := by decide
  obtain ⟨n1, n2, -, s1, e1, kd1, v1, w1, t1, t2, t3', t4, -⟩ := pr_next (N := N) (p := e) hC hM hT.2.2.2.2.2.2.2.1 hT.2.2.2.2.2.2.2.2.2.2.1 hT.2.1 (by omega)
  obtain ⟨a1, a2⟩ := rk_at (c := c) hT hM h25 hc
  obtain ⟨g1, g2⟩ := cl_sign (N := N) (c := c) hT.2.2.2.2.2.1 (by omega) (by omega)
  refine ⟨fun _ => n1, ⟨a1, fun _ => n2⟩, ?_⟩
  by_cases k : kd = c
  · right
    refine ⟨k, g1 k, ?_, s1, e1, kd1, v1, w1, t1, t2, t3', t4⟩
    unfold s_X9_need
    rw [a2, if_pos k, if_neg n10]
    rfl
  · left
    refine ⟨k, (g2 k).2, ?_⟩
    unfold s_X9_need
    rw [a2, if_neg k, if_pos rfl]
    exact rf_fail (c := 1) h25
theorem bits_ok : ∀ m : Fin 16, ∀ k : Fin 4, ((nI m.1 &&& nI (2 ^ k.1) = 0) ↔ ¬ ((nI m.1 >>> (nI k.1 &&& 31)) &&& 1 = 1)) ∧ nI m.1 ||| nI (2 ^ k.1) = nI m.1 ||| ((1 : Int32) <<< (nI k.1 &&& 31)) ∧ ∃ m1 : Fin 16, nI m.1 ||| nI (2 ^ k.1) = nI m1.1 ∧ (∀ k1 : Fin 4, nI m1.1 &&& nI (2 ^ k1.1) = 0 → nI m.1 &&& nI (2 ^ k1.1) = 0) ∧ ¬ (nI m1.1 &&& nI (2 ^ k.1) = 0) := by decide +kernel
/-- what was not told behind was not told before -/
def MO (m m1 : Nat) : Prop := ∀ k, k < 4 → nI m1 &&& nI (2 ^ k) = 0 → nI m &&& nI (2 ^ k) = 0
/-- told for the first time, or again -/
theorem ln_once {s e kd v w m k : Nat} (hC : TC nb tx σ) (hM : TM nb tx τ) (hT : TKs tx nb s e kd v w σ τ) (h25 : τ.1 468 25 = 0) (hm : σ.1 2 4 = nI m) (hm2 : τ.1 468 33 = nI m) (m16 : m < 16) (k4 : k < 4) (hN : 200000 < N) : p_X3_readFirstTold (nI (2 ^ k)) N σ ∧ p_X9_isOnce (nI k) N τ ∧ ((r_X3_readFirstTold (nI (2 ^ k)) N σ = (0, zuI (zuI σ 2 2 (nI 3)) 2 3 (σ.1 3 3)) ∧ (r_X9_isOnce (nI k) N τ).1 = 0 ∧ ∃ y, (r_X9_isOnce (nI k) N τ).2 = zuI (zuI (zuI τ 468 25 (nI 3)) 468 26 (τ.1 468 21)) 468 33 y) ∨ ∃ m1, m1 < 16 ∧ (nI m &&& nI (2 ^ k) = 0 ∧ MO m m1 ∧ ¬ (nI m1 &&& nI (2 ^ k) = 0)) ∧ r_X3_readFirstTold (nI (2 ^ k)) N σ = (1, s_X6_next N (zuI σ 2 4 (nI m1))) ∧ r_X9_isOnce (nI k) N τ = (1, s_X9_scan N (zuI τ 468 33 (nI m1))) ∧ ∃ s1 e1 kd1 v1 w1, TKs tx nb s1 e1 kd1 v1 w1 (s_X6_next N (zuI σ 2 4 (nI m1))) (s_X9_scan N (zuI τ 468 33 (nI m1))) ∧ rfr sTC (zuI σ 2 4 (nI m1)) (s_X6_next N (zuI σ 2 4 (nI m1))) ∧ rfr sTM (zuI τ 468 33 (nI m1)) (s_X9_scan N (zuI τ 468 33 (nI m1))) ∧ e ≤ s1) := by
  have n10 : ¬ (1 : Int32) = 0 := by decide
  obtain ⟨b1, b2, ⟨m1, hm1⟩, b3, b5, b6⟩ := bits_ok ⟨m, m16⟩ ⟨k, k4⟩
  have b1 : (nI m &&& nI (2 ^ k) = 0) ↔ ¬ ((nI m >>> (nI k &&& 31)) &&& 1 = 1) := b1
  have b2 : nI m ||| nI (2 ^ k) = nI m ||| ((1 : Int32) <<< (nI k &&& 31)) := b2
  have b3 : nI m ||| nI (2 ^ k) = nI m1 := b3
  have b4 : nI m ||| ((1 : Int32) <<< (nI k &&& 31)) = nI m1 := b2.symm.trans b3
  have hC1 : TC nb tx (zuI σ 2 4 (nI m1)) := hC.eq (fun Q jx y => gI_n (by omega)) rfl
  have hM1 : TM nb tx (zuI τ 468 33 (nI m1)) := hM.eq (fun Q jx y => gI_n (by omega))
  obtain ⟨n1, n2, -, s1, e1, kd1, v1, w1, t1, t2, t3', t4, -⟩ := pr_next (N := N) (p := e) hC1 hM1 ((gI_n (by omega)).trans hT.2.2.2.2.2.2.2.1) ((gI_n (by omega)).trans hT.2.2.2.2.2.2.2.2.2.2.1) hT.2.1 (by omega)
  have eu1 : u_X3_readFirstTold_1 (nI (2 ^ k)) N σ = zuI σ 2 4 (nI m1) := by
    unfold u_X3_readFirstTold_1
    rw [hm, b3]
  have ev1 : u_X9_isOnce_1 (nI k) N τ = zuI τ 468 33 (nI m1) := by
    unfold u_X9_isOnce_1
    rw [hm2, b4]
  have ef : s_X9_fail 3 τ = zuI (zuI τ 468 25 (nI 3)) 468 26 (τ.1 468 21) := rf_fail (c := 3) h25
  have f4 : (u_X9_isOnce_4 (nI k) N τ).1 468 25 = nI 3 := by
    unfold u_X9_isOnce_4 u_X9_isOnce_3
    rw [gI_n (by omega), ef, gI_n (by omega), gI_h rfl rfl]
  have nz : ¬ (u_X9_isOnce_4 (nI k) N τ).1 468 25 = 0 := by rw [f4]; decide
  have o1 : (zuI τ 468 33 (nI m1)).1 468 25 = 0 := (gI_n (by omega)).trans h25
  have o2 : (s_X9_scan N (zuI τ 468 33 (nI m1))).1 468 25 = 0 := by rw [t3'.2 _ _ (fun z => by unfold sTM at z; omega)]; exact o1
  refine ⟨fun _ => by rw [eu1]; exact n1, ?_, ?_⟩
  · unfold p_X9_isOnce
    rw [ev1]
    exact ⟨fun _ _ => n2, fun _ y => absurd y nz⟩
  · by_cases c : nI m &&& nI (2 ^ k) = 0
    · right
      have c' : ¬ ((nI m >>> (nI k &&& 31)) &&& 1 = 1) := b1.mp c
      refine ⟨m1, hm1, ⟨c, fun k1 hk1 => b5 ⟨k1, hk1⟩, b6⟩, ?_, ?_, s1, e1, kd1, v1, w1, t1, t2, t3', t4⟩
      · unfold r_X3_readFirstTold
        rw [hm, if_pos c]
        unfold u_X3_readFirstTold_2
        rw [eu1]
      · unfold r_X9_isOnce
        rw [hm2, if_neg c']
        unfold u_X9_isOnce_2
        rw [ev1, o1, if_pos rfl, o2, if_pos rfl]
    · left
      have c' : (nI m >>> (nI k &&& 31)) &&& 1 = 1 := Classical.byContradiction fun y => c (b1.mpr y)
      refine ⟨?_, ?_, ?_⟩
      · unfold r_X3_readFirstTold
        rw [hm, if_neg c]
        rfl
      · unfold r_X9_isOnce
        rw [hm2, if_pos c', if_neg nz, if_neg nz]
      · unfold r_X9_isOnce
        rw [hm2, if_pos c', if_neg nz, if_neg nz]
        unfold u_X9_isOnce_4 u_X9_isOnce_3
        rw [ef]
        exact ⟨_, rfl⟩
end IS
