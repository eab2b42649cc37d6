/-! the reference's unit: from its head to where it counts -/
section IS
variable {nb N b : Nat} {tx : Nat → Nat} {σ τ τ1 : zS}
theorem tm_eq {x : Int32} (h1 : τ1.1 468 39 = τ.1 468 39) (h2 : τ1.1 468 37 = τ.1 468 37) (h3 : τ1.1 489 = τ.1 489) (h4 : τ1.1 490 = τ.1 490) (h5 : τ1.1 481 = τ.1 481) : (p_X9_isTooMany x τ → p_X9_isTooMany x τ1) ∧ f_X9_isTooMany x τ1 = f_X9_isTooMany x τ := by
  have et : f_X9_top τ1 = f_X9_top τ := by
    unfold f_X9_top
    rw [h2, h3]
  have ep : p_X9_top τ1 = p_X9_top τ := by
    unfold p_X9_top
    rw [h2]
  refine ⟨fun y => ?_, ?_⟩
  · unfold p_X9_isTooMany at y ⊢
    rw [h1, h2, h4, et, ep]
    exact y
  · unfold f_X9_isTooMany
    rw [h1, h2, h4, h5, et]
/-- with a fault found it goes to its end -/
theorem ru_d7 {c z : Nat} {v2 v3 v4 v5 v6 : Int32} (h1 : 1 ≤ c) (h2 : c ≤ 5) (h0 : τ.1 468 25 = nI c) : q_X9_readUnit N (z + 1) 7 (nI b) v2 v3 v4 v5 v6 τ ∧ l_X9_readUnit N (z + 1) 7 (nI b) v2 v3 v4 v5 v6 τ = τ := by
  have n0 : ¬ nI c ≤ 0 := nI_nle (by omega) (by omega)
  rw [q_X9_readUnit, l_X9_readUnit, h0, if_neg n0]
  exact ⟨fun y => absurd y n0, rfl⟩
theorem ru_d5 {c z : Nat} {v2 v3 v4 v5 v6 : Int32} (h1 : 1 ≤ c) (h2 : c ≤ 5) (h0 : τ.1 468 25 = nI c) (hb : b < 2) (hp : p_X9_isTooMany (nI b) τ) : q_X9_readUnit N (z + 1 + 1 + 1) 5 (nI b) v2 v3 v4 v5 v6 τ ∧ l_X9_readUnit N (z + 1 + 1 + 1) 5 (nI b) v2 v3 v4 v5 v6 τ = τ := by
  obtain ⟨a1, a2⟩ := ru_d7 (N := N) (b := b) (z := z) (v2 := v2) (v3 := v3) (v4 := v4) (v5 := v5) (v6 := v6) h1 h2 h0
  obtain ⟨b1, b2⟩ := ru_d7 (N := N) (b := b) (z := z + 1) (v2 := v2) (v3 := v3) (v4 := v4) (v5 := v5) (v6 := v6) h1 h2 h0
  have ef : u_X9_readUnit_h6_1 N (nI b) v2 v3 v4 v5 v6 τ = τ := rf_fail2 h1 h2 h0
  have c6 : q_X9_readUnit N (z + 1 + 1) 6 (nI b) v2 v3 v4 v5 v6 τ ∧ l_X9_readUnit N (z + 1 + 1) 6 (nI b) v2 v3 v4 v5 v6 τ = τ := by
    rw [q_X9_readUnit, l_X9_readUnit, ef]
    exact ⟨a1, a2⟩
  rw [q_X9_readUnit, l_X9_readUnit]
  refine ⟨⟨vp_in_nI hb (by decide), fun _ => c6.1, fun _ => ⟨fun _ => c6.1, fun _ => ⟨hp, fun _ => b1, fun _ => c6.1⟩⟩⟩, ?_⟩
  by_cases k1 : τ.1 478 (nI b).toNatClampNeg = 80
  · rw [if_pos k1]; exact c6.2
  · rw [if_neg k1]
    by_cases k2 : 5 < τ.1 468 38
    · rw [if_pos k2]; exact c6.2
    · rw [if_neg k2]
      by_cases k3 : f_X9_isTooMany (nI b) τ = 0
      · rw [if_pos k3]; exact b2
      · rw [if_neg k3]; exact c6.2
theorem ru_d2 {c z : Nat} {v2 v3 : Int32} (h1 : 1 ≤ c) (h2 : c ≤ 5) (h0 : τ.1 468 25 = nI c) (hb : b < 2) (hp : p_X9_isTooMany (nI b) τ) : q_X9_readUnit N (z + 1 + 1 + 1 + 1 + 1 + 1) 2 (nI b) v2 v3 0 0 0 τ ∧ l_X9_readUnit N (z + 1 + 1 + 1 + 1 + 1 + 1) 2 (nI b) v2 v3 0 0 0 τ = τ := by
  have hn : f_X9_isName τ = 0 := (rk_found (c := 0) (by rw [h0]; exact nI_ne0 (by omega) (by omega))).2.2.2
  obtain ⟨a1, a2⟩ := ru_d5 (N := N) (z := z) (v2 := v2) (v3 := v3) (v4 := 0) (v5 := -1) (v6 := -1) h1 h2 h0 hb hp
  have c4 : q_X9_readUnit N (z + 1 + 1 + 1 + 1) 4 (nI b) v2 v3 0 (-1) 0 τ ∧ l_X9_readUnit N (z + 1 + 1 + 1 + 1) 4 (nI b) v2 v3 0 (-1) 0 τ = τ := by
    rw [q_X9_readUnit, l_X9_readUnit, hn, if_pos rfl]
    exact ⟨⟨fun _ => a1, fun y => absurd rfl y⟩, a2⟩
  have c3 : q_X9_readUnit N (z + 1 + 1 + 1 + 1 + 1) 3 (nI b) v2 v3 0 0 0 τ ∧ l_X9_readUnit N (z + 1 + 1 + 1 + 1 + 1) 3 (nI b) v2 v3 0 0 0 τ = τ := by
    rw [q_X9_readUnit, l_X9_readUnit, hn, if_pos rfl]
    exact ⟨⟨fun _ => c4.1, fun y => absurd rfl y⟩, c4.2⟩
  rw [q_X9_readUnit, l_X9_readUnit, hn, if_pos rfl]
  exact ⟨⟨fun _ => c3.1, fun y => absurd rfl y⟩, c3.2⟩
/-- what a fault leaves -/
def FLm (c : Nat) (τ τ1 : zS) : Prop := τ1 = zuI (zuI τ 468 25 (nI c)) 468 26 (τ.1 468 21)
theorem fl_at {c : Nat} (h0 : τ.1 468 25 = 0) (hp : p_X9_isTooMany (nI b) τ) : (s_X9_fail (nI c) τ).1 468 25 = nI c ∧ p_X9_isTooMany (nI b) (s_X9_fail (nI c) τ) ∧ FLm c τ (s_X9_fail (nI c) τ) := by
  rw [rf_fail h0]
  refine ⟨(gI_n (by omega)).trans (gI_h rfl rfl), (tm_eq ?_ ?_ ?_ ?_ ?_).1 hp, rfl⟩
  · rw [gI_n (by omega), gI_n (by omega)]
  · rw [gI_n (by omega), gI_n (by omega)]
  · exact funext fun j => by rw [gI_n (by omega), gI_n (by omega)]
  · exact funext fun j => by rw [gI_n (by omega), gI_n (by omega)]
  · exact funext fun j => by rw [gI_n (by omega), gI_n (by omega)]
/-- no unit can begin with this token -/
theorem ru_bad {s e kd v w z : Nat} (h : TKs tx nb s e kd v w σ τ) (h0 : τ.1 468 25 = 0) (hb : b < 2) (hp : p_X9_isTooMany (nI b) τ) (hk : ¬ kd = 303) (hk2 : ¬ kd = 302) : q_X9_readUnit N (z + 7) 0 (nI b) 0 0 0 0 0 τ ∧ FLm 1 τ (l_X9_readUnit N (z + 7) 0 (nI b) 0 0 0 0 0 τ) := by
  have k323 := h.kd
  have hn : f_X9_isName τ = 0 := by rw [rk_name h h0, if_neg hk]
  have ht : ¬ τ.1 468 22 = 3 := fun y => hk2 ((h.tok (by omega)).1.mp y)
  obtain ⟨f1, f2, f3⟩ := fl_at (c := 1) h0 hp
  obtain ⟨d1, d2⟩ := ru_d2 (N := N) (z := z) (v2 := 0) (v3 := 0) (by decide) (by decide) f1 hb f2
  have eu : u_X9_readUnit_h0_1 N (nI b) 0 0 0 0 0 τ = s_X9_fail (nI 1) τ := rfl
  rw [show z + 7 = (z + 1 + 1 + 1 + 1 + 1 + 1) + 1 by omega, q_X9_readUnit, l_X9_readUnit, if_pos rfl, if_pos rfl, hn, if_pos rfl, if_neg ht, eu, d2]
  exact ⟨⟨fun y => absurd rfl y, fun _ => ⟨fun y => absurd rfl y, fun _ => ⟨fun y => absurd rfl y, fun _ => ⟨fun y => absurd y ht, fun _ => d1⟩⟩⟩⟩, f3⟩
/-- a number: too great, or on to where it counts -/
theorem ru_num {s e kd v w z : Nat} (h : TKs tx nb s e kd v w σ τ) (h0 : τ.1 468 25 = 0) (hb : b < 2) (hp : p_X9_isTooMany (nI b) τ) (hk : kd = 302) : (¬ w ≤ 9999 → q_X9_readUnit N (z + 8) 0 (nI b) 0 0 0 0 0 τ ∧ FLm 2 τ (l_X9_readUnit N (z + 8) 0 (nI b) 0 0 0 0 0 τ)) ∧ (w ≤ 9999 → l_X9_readUnit N (z + 8) 0 (nI b) 0 0 0 0 0 τ = l_X9_readUnit N (z + 3) 5 (nI b) 0 0 0 (-1) (-1) τ ∧ (q_X9_readUnit N (z + 3) 5 (nI b) 0 0 0 (-1) (-1) τ → q_X9_readUnit N (z + 8) 0 (nI b) 0 0 0 0 0 τ)) := by
  have hn : f_X9_isName τ = 0 := by rw [rk_name h h0, if_neg (by omega)]
  have ht : τ.1 468 22 = 3 := (h.tok (by omega)).1.mpr hk
  have hw : w < 100000 := by have := h.2.2.2.2.1; unfold nRl at this; omega
  have en : τ.1 468 23 = nI w := by
    have h12 := h.2.2.2.2.2.2.2.2.2.2.2
    unfold RK at h12
    rcases h12 with ⟨y1, y2⟩ | ⟨y1, y2⟩ | ⟨y1, y2, y3⟩ | ⟨y1, y2, y3⟩ | ⟨y1, y2, y3, y4⟩ | ⟨y1, y2, y3, y4⟩ <;> first | exact y3 | omega
  refine ⟨fun c => ?_, fun c => ?_⟩
  · have c' : ¬ nI w ≤ 9999 := nI_ge (a := 9999) (by omega) (by omega)
    obtain ⟨f1, f2, f3⟩ := fl_at (c := 2) h0 hp
    obtain ⟨d1, d2⟩ := ru_d2 (N := N) (z := z) (v2 := 0) (v3 := 0) (by decide) (by decide) f1 hb f2
    have eu : u_X9_readUnit_h1_1 N (nI b) 0 0 0 0 0 τ = s_X9_fail (nI 2) τ := rfl
    rw [show z + 8 = (z + 1 + 1 + 1 + 1 + 1 + 1) + 1 + 1 by omega, q_X9_readUnit, l_X9_readUnit, if_pos rfl, if_pos rfl, hn, if_pos rfl, if_pos ht, q_X9_readUnit, l_X9_readUnit, if_pos ht, en, if_neg c', eu, d2]
    exact ⟨⟨fun y => absurd rfl y, fun _ => ⟨fun y => absurd rfl y, fun _ => ⟨fun y => absurd rfl y, fun _ => ⟨fun _ => ⟨fun y => absurd ht y, fun _ => ⟨fun y => absurd y c', fun _ => d1⟩⟩, fun y => absurd ht y⟩⟩⟩⟩, f3⟩
  · have c' : nI w ≤ 9999 := nI_le (b := 9999) c (by decide)
    rw [show z + 8 = (z + 3) + 1 + 1 + 1 + 1 + 1 by omega]
    refine ⟨?_, fun y => ?_⟩
    · rw [l_X9_readUnit, if_pos rfl, if_pos rfl, hn, if_pos rfl, if_pos ht, l_X9_readUnit, if_pos ht, en, if_pos c', l_X9_readUnit, hn, if_pos rfl, l_X9_readUnit, hn, if_pos rfl, l_X9_readUnit, hn, if_pos rfl]
    · have q4 : q_X9_readUnit N (z + 3 + 1) 4 (nI b) 0 0 0 (-1) 0 τ := by
        rw [q_X9_readUnit, hn]
        exact ⟨fun _ => y, fun y1 => absurd rfl y1⟩
      have q3 : q_X9_readUnit N (z + 3 + 1 + 1) 3 (nI b) 0 0 0 0 0 τ := by
        rw [q_X9_readUnit, hn]
        exact ⟨fun _ => q4, fun y1 => absurd rfl y1⟩
      have q2 : q_X9_readUnit N (z + 3 + 1 + 1 + 1) 2 (nI b) 0 0 0 0 0 τ := by
        rw [q_X9_readUnit, hn]
        exact ⟨fun _ => q3, fun y1 => absurd rfl y1⟩
      have q1 : q_X9_readUnit N (z + 3 + 1 + 1 + 1 + 1) 1 (nI b) 0 0 0 0 0 τ := by
        rw [q_X9_readUnit, en]
        exact ⟨fun y1 => absurd ht y1, fun _ => ⟨fun _ => q2, fun y1 => absurd c' y1⟩⟩
      rw [q_X9_readUnit, hn]
      exact ⟨fun y1 => absurd rfl y1, fun _ => ⟨fun y1 => absurd rfl y1, fun _ => ⟨fun y1 => absurd rfl y1, fun _ => ⟨fun _ => q1, fun y1 => absurd ht y1⟩⟩⟩⟩
/-- a ( or a - -/
theorem ru_sgn {s e kd v w z : Nat} {v2 v3 : Int32} (h : TKs tx nb s e kd v w σ τ) (h0 : τ.1 468 25 = 0) (hk : kd = 40 ∨ kd = 45) (hv : (v2 = 1 ∧ v3 = 0) ∨ (v2 = 0 ∧ v3 = 1)) : l_X9_readUnit N (z + 8) 0 (nI b) v2 v3 0 0 0 τ = l_X9_readUnit N (z + 3) 5 (nI b) v2 v3 0 (-1) (-1) τ ∧ (q_X9_readUnit N (z + 3) 5 (nI b) v2 v3 0 (-1) (-1) τ → q_X9_readUnit N (z + 8) 0 (nI b) v2 v3 0 0 0 τ) := by
  have hn : f_X9_isName τ = 0 := by rw [rk_name h h0, if_neg (by omega)]
  have ht : ¬ τ.1 468 22 = 3 := fun y => by have := (h.tok (by omega)).1.mp y; omega
  rw [show z + 8 = (z + 3) + 1 + 1 + 1 + 1 + 1 by omega]
  have l1 : l_X9_readUnit N (z + 3 + 1 + 1 + 1 + 1) 1 (nI b) v2 v3 0 0 0 τ = l_X9_readUnit N (z + 3) 5 (nI b) v2 v3 0 (-1) (-1) τ := by
    rw [l_X9_readUnit, if_neg ht, l_X9_readUnit, hn, if_pos rfl, l_X9_readUnit, hn, if_pos rfl, l_X9_readUnit, hn, if_pos rfl]
  have q1 : q_X9_readUnit N (z + 3) 5 (nI b) v2 v3 0 (-1) (-1) τ → q_X9_readUnit N (z + 3 + 1 + 1 + 1 + 1) 1 (nI b) v2 v3 0 0 0 τ := fun y => by
    have q4 : q_X9_readUnit N (z + 3 + 1) 4 (nI b) v2 v3 0 (-1) 0 τ := by
      rw [q_X9_readUnit, hn]
      exact ⟨fun _ => y, fun y1 => absurd rfl y1⟩
    have q3 : q_X9_readUnit N (z + 3 + 1 + 1) 3 (nI b) v2 v3 0 0 0 τ := by
      rw [q_X9_readUnit, hn]
      exact ⟨fun _ => q4, fun y1 => absurd rfl y1⟩
    have q2 : q_X9_readUnit N (z + 3 + 1 + 1 + 1) 2 (nI b) v2 v3 0 0 0 τ := by
      rw [q_X9_readUnit, hn]
      exact ⟨fun _ => q3, fun y1 => absurd rfl y1⟩
    rw [q_X9_readUnit]
    exact ⟨fun _ => q2, fun y1 => absurd y1 ht⟩
  have n10 : ¬ (1 : Int32) = 0 := by decide
  rcases hv with ⟨rfl, rfl⟩ | ⟨rfl, rfl⟩
  · refine ⟨?_, fun y => ?_⟩
    · rw [l_X9_readUnit, if_neg n10, l1]
    · rw [q_X9_readUnit]
      exact ⟨fun _ => q1 y, fun y1 => absurd y1 n10⟩
  · refine ⟨?_, fun y => ?_⟩
    · rw [l_X9_readUnit, if_pos rfl, if_neg n10, l1]
    · rw [q_X9_readUnit]
      exact ⟨fun y1 => absurd rfl y1, fun _ => ⟨fun _ => q1 y, fun y1 => absurd y1 n10⟩⟩
/-- a name -/
theorem ru_nam {s e kd v w z k2 f p : Nat} {ff fp : Int32} (h : TKs tx nb s e kd v w σ τ) (h0 : τ.1 468 25 = 0) (hb : b < 2) (hp : p_X9_isTooMany (nI b) τ) (hk : kd = 303) (o1 : p_X9_isOpenBehind N τ) (o2 : f_X9_isOpenBehind N τ = (if k2 = 40 then 1 else 0)) (f1 : p_X9_functionHere (τ.1 476 b) N τ) (f2 : f_X9_functionHere (τ.1 476 b) N τ = ff) (g1 : p_X9_parameterHere N τ) (g2 : f_X9_parameterHere N τ = fp) : (k2 = 40 → ff = -1 → q_X9_readUnit N (z + 8) 0 (nI b) 0 0 0 0 0 τ ∧ FLm 4 τ (l_X9_readUnit N (z + 8) 0 (nI b) 0 0 0 0 0 τ)) ∧ (k2 = 40 → ff = nI f → f < 10 → l_X9_readUnit N (z + 8) 0 (nI b) 0 0 0 0 0 τ = l_X9_readUnit N (z + 4) 5 (nI b) 0 0 1 (nI f) (-1) τ ∧ (q_X9_readUnit N (z + 4) 5 (nI b) 0 0 1 (nI f) (-1) τ → q_X9_readUnit N (z + 8) 0 (nI b) 0 0 0 0 0 τ)) ∧ (¬ k2 = 40 → fp = -1 → q_X9_readUnit N (z + 8) 0 (nI b) 0 0 0 0 0 τ ∧ FLm 4 τ (l_X9_readUnit N (z + 8) 0 (nI b) 0 0 0 0 0 τ)) ∧ (¬ k2 = 40 → fp = nI p → p < 10 → l_X9_readUnit N (z + 8) 0 (nI b) 0 0 0 0 0 τ = l_X9_readUnit N (z + 4) 5 (nI b) 0 0 0 (-1) (nI p) τ ∧ (q_X9_readUnit N (z + 4) 5 (nI b) 0 0 0 (-1) (nI p) τ → q_X9_readUnit N (z + 8) 0 (nI b) 0 0 0 0 0 τ)) := by
  have n10 : ¬ (1 : Int32) = 0 := by decide
  have hn : ¬ f_X9_isName τ = 0 := by rw [rk_name h h0, if_pos hk]; decide
  have ht : ¬ τ.1 468 22 = 3 := fun y => by have := (h.tok (by omega)).1.mp y; omega
  have cb : (nI b).toNatClampNeg = b := nI_clamp (by omega)
  have vb : vp_in (nI b) 2 := vp_in_nI hb (by decide)
  obtain ⟨e1, e2, e3⟩ := fl_at (c := 4) h0 hp
  rw [show z + 8 = (z + 4) + 1 + 1 + 1 + 1 by omega]
  -- to head 2
  have l2 : l_X9_readUnit N (z + 4 + 1 + 1 + 1 + 1) 0 (nI b) 0 0 0 0 0 τ = l_X9_readUnit N (z + 4 + 1 + 1) 2 (nI b) 0 0 0 0 0 τ := by
    rw [l_X9_readUnit, if_pos rfl, if_pos rfl, if_neg hn, l_X9_readUnit, if_neg ht]
  have q2 : q_X9_readUnit N (z + 4 + 1 + 1) 2 (nI b) 0 0 0 0 0 τ → q_X9_readUnit N (z + 4 + 1 + 1 + 1 + 1) 0 (nI b) 0 0 0 0 0 τ := fun y => by
    have q1 : q_X9_readUnit N (z + 4 + 1 + 1 + 1) 1 (nI b) 0 0 0 0 0 τ := by
      rw [q_X9_readUnit]
      exact ⟨fun _ => y, fun y1 => absurd y1 ht⟩
    rw [q_X9_readUnit]
    exact ⟨fun y1 => absurd rfl y1, fun _ => ⟨fun y1 => absurd rfl y1, fun _ => ⟨fun _ => q1, fun y1 => absurd y1 hn⟩⟩⟩
  have lc : k2 = 40 → l_X9_readUnit N (z + 4 + 1 + 1) 2 (nI b) 0 0 0 0 0 τ = l_X9_readUnit N (z + 4 + 1) 4 (nI b) 0 0 1 ff 0 τ ∧ (q_X9_readUnit N (z + 4 + 1) 4 (nI b) 0 0 1 ff 0 τ → q_X9_readUnit N (z + 4 + 1 + 1) 2 (nI b) 0 0 0 0 0 τ) := fun c => by
    rw [if_pos c] at o2
    refine ⟨?_, fun y => ?_⟩
    · rw [l_X9_readUnit, if_neg hn, o2, if_neg n10, if_neg hn, cb, f2]
    · rw [q_X9_readUnit, o2, cb, f2]
      exact ⟨fun y1 => absurd y1 hn, fun _ => ⟨o1, fun y1 => absurd y1 n10, fun _ => ⟨vb, f1, fun y1 => absurd y1 hn, fun _ => y⟩⟩⟩
  have lp : ¬ k2 = 40 → l_X9_readUnit N (z + 4 + 1 + 1) 2 (nI b) 0 0 0 0 0 τ = l_X9_readUnit N (z + 4 + 1) 3 (nI b) 0 0 0 0 0 τ ∧ (q_X9_readUnit N (z + 4 + 1) 3 (nI b) 0 0 0 0 0 τ → q_X9_readUnit N (z + 4 + 1 + 1) 2 (nI b) 0 0 0 0 0 τ) := fun c => by
    rw [if_neg c] at o2
    refine ⟨?_, fun y => ?_⟩
    · rw [l_X9_readUnit, if_neg hn, o2, if_pos rfl]
    · rw [q_X9_readUnit, o2]
      exact ⟨fun y1 => absurd y1 hn, fun _ => ⟨o1, fun _ => y, fun y1 => absurd rfl y1⟩⟩
  have nm1 : ¬ (0 : Int32) ≤ -1 := by decide
  refine ⟨fun c cf => ?_, fun c cf hf => ?_, fun c cf => ?_, fun c cf hf => ?_⟩
  · obtain ⟨y1, y2⟩ := lc c
    subst cf
    obtain ⟨d1, d2⟩ := ru_d5 (N := N) (z := z + 1) (v2 := 0) (v3 := 0) (v4 := 1) (v5 := -1) (v6 := -1) (by decide) (by decide) e1 hb e2
    have eu : u_X9_readUnit_h4_1 N (nI b) 0 0 1 (-1) 0 τ = s_X9_fail (nI 4) τ := rfl
    rw [l2, y1]
    refine ⟨q2 (y2 ?_), ?_⟩
    · rw [q_X9_readUnit, eu]
      exact ⟨fun y3 => absurd y3 hn, fun _ => ⟨fun y3 => absurd y3 nm1, fun _ => d1⟩⟩
    · rw [l_X9_readUnit, if_neg hn, if_neg nm1, eu, d2]
      exact e3
  · obtain ⟨y1, y2⟩ := lc c
    subst cf
    have c0 : (0 : Int32) ≤ nI f := nI_pos' (by omega)
    rw [l2, y1]
    refine ⟨?_, fun y => q2 (y2 ?_)⟩
    · rw [l_X9_readUnit, if_neg hn, if_pos c0]
    · rw [q_X9_readUnit]
      exact ⟨fun y3 => absurd y3 hn, fun _ => ⟨fun _ => y, fun y3 => absurd c0 y3⟩⟩
  · obtain ⟨y1, y2⟩ := lp c
    subst cf
    obtain ⟨d1, d2⟩ := ru_d5 (N := N) (z := z + 1) (v2 := 0) (v3 := 0) (v4 := 0) (v5 := -1) (v6 := -1) (by decide) (by decide) e1 hb e2
    have eu : u_X9_readUnit_h3_1 N (nI b) 0 0 0 0 0 τ = s_X9_fail (nI 4) τ := rfl
    rw [l2, y1]
    refine ⟨q2 (y2 ?_), ?_⟩
    · rw [q_X9_readUnit, g2, eu]
      exact ⟨fun y3 => absurd y3 hn, fun _ => ⟨g1, fun y3 => absurd y3 hn, fun _ => ⟨fun y3 => absurd y3 nm1, fun _ => d1⟩⟩⟩
    · rw [l_X9_readUnit, if_neg hn, if_neg hn, g2, if_neg nm1, eu, d2]
      exact e3
  · obtain ⟨y1, y2⟩ := lp c
    subst cf
    have c0 : (0 : Int32) ≤ nI p := nI_pos' (by omega)
    rw [l2, y1]
    refine ⟨?_, fun y => q2 (y2 ?_)⟩
    · rw [l_X9_readUnit, if_neg hn, if_neg hn, g2, if_pos c0]
    · rw [q_X9_readUnit, g2]
      exact ⟨fun y3 => absurd y3 hn, fun _ => ⟨g1, fun y3 => absurd y3 hn, fun _ => ⟨fun _ => y, fun y3 => absurd c0 y3⟩⟩⟩
/-- one too many, or counted -/
theorem ru_cnt {u d z : Nat} {v2 v3 v4 v5 v6 : Int32} (h0 : τ.1 468 25 = 0) (hb : b < 2) (hp : p_X9_isTooMany (nI b) τ) (hu : τ.1 478 b = nI u) (u80 : u ≤ 80) (hd : τ.1 468 38 = nI d) (d9 : d ≤ 9) : ((u = 80 ∨ 5 < d ∨ ¬ f_X9_isTooMany (nI b) τ = 0) → q_X9_readUnit N (z + 1 + 1 + 1) 5 (nI b) v2 v3 v4 v5 v6 τ ∧ FLm 5 τ (l_X9_readUnit N (z + 1 + 1 + 1) 5 (nI b) v2 v3 v4 v5 v6 τ)) ∧ (u < 80 → d ≤ 5 → f_X9_isTooMany (nI b) τ = 0 → l_X9_readUnit N (z + 1 + 1 + 1) 5 (nI b) v2 v3 v4 v5 v6 τ = l_X9_readUnit N (z + 1 + 1) 7 (nI b) v2 v3 v4 v5 v6 τ ∧ (q_X9_readUnit N (z + 1 + 1) 7 (nI b) v2 v3 v4 v5 v6 τ → q_X9_readUnit N (z + 1 + 1 + 1) 5 (nI b) v2 v3 v4 v5 v6 τ)) := by
  have cb : (nI b).toNatClampNeg = b := nI_clamp (by omega)
  have vb : vp_in (nI b) 2 := vp_in_nI hb (by decide)
  refine ⟨fun c => ?_, fun c1 c2 c3 => ?_⟩
  · obtain ⟨f1, f2, f3⟩ := fl_at (c := 5) h0 hp
    obtain ⟨d1, d2⟩ := ru_d7 (N := N) (b := b) (z := z) (v2 := v2) (v3 := v3) (v4 := v4) (v5 := v5) (v6 := v6) (by decide) (by decide) f1
    have eu : u_X9_readUnit_h6_1 N (nI b) v2 v3 v4 v5 v6 τ = s_X9_fail (nI 5) τ := rfl
    have c6 : q_X9_readUnit N (z + 1 + 1) 6 (nI b) v2 v3 v4 v5 v6 τ ∧ FLm 5 τ (l_X9_readUnit N (z + 1 + 1) 6 (nI b) v2 v3 v4 v5 v6 τ) := by
      rw [q_X9_readUnit, l_X9_readUnit, eu, d2]
      exact ⟨d1, f3⟩
    rw [q_X9_readUnit, l_X9_readUnit, cb, hu, hd]
    by_cases k1 : nI u = 80
    · rw [if_pos k1]
      exact ⟨⟨vb, fun _ => c6.1, fun y => absurd k1 y⟩, c6.2⟩
    · rw [if_neg k1]
      by_cases k2 : 5 < nI d
      · rw [if_pos k2]
        exact ⟨⟨vb, fun _ => c6.1, fun _ => ⟨fun _ => c6.1, fun y => absurd k2 y⟩⟩, c6.2⟩
      · rw [if_neg k2]
        have k3 : ¬ f_X9_isTooMany (nI b) τ = 0 := by
          rcases c with c | c | c
          · exact absurd (by rw [c]; rfl) k1
          · exact absurd (nI_lt (a := 5) c (by omega)) k2
          · exact c
        rw [if_neg k3]
        exact ⟨⟨vb, fun _ => c6.1, fun _ => ⟨fun _ => c6.1, fun _ => ⟨hp, fun y => absurd y k3, fun _ => c6.1⟩⟩⟩, c6.2⟩
  · have k1 : ¬ nI u = 80 := fun y => by have := (nI_eq (b := 80) (by omega) (by decide)).mp y; omega
    have k2 : ¬ 5 < nI d := nI_nlt (a := 5) (b := d) (by omega) (by omega)
    refine ⟨?_, fun y => ?_⟩
    · rw [l_X9_readUnit, cb, hu, hd, if_neg k1, if_neg k2, if_pos c3]
    · rw [q_X9_readUnit, cb, hu, hd]
      exact ⟨vb, fun y1 => absurd y1 k1, fun _ => ⟨fun y1 => absurd y1 k2, fun _ => ⟨hp, fun _ => y, fun y1 => absurd c3 y1⟩⟩⟩
end IS
