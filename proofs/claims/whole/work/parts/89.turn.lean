/-! whose turn comes next -/
def Sx (al : Nat) (σ : zS) (r : Nat) (ST : Nat → Nat) (t : Nat) : Prop := σ.1 (r + 5 + 5 * t) 1 = nI (ST t) ∨ (al = 1 ∧ σ.1 (r + 5 + 5 * t) 1 = 3 ∧ ST t = 2)
theorem cl_over {al r t : Nat} {σ : zS} {ST : Nat → Nat} (h2 : ∀ t, t < 4 → σ.2 (r + 4) t = r + 5 + 5 * t + 1) (ht : t < 4) (h3 : ST t ≤ 3) (h : Sx al σ r ST t) : f_X4_isOver r (nI t) σ = if 2 ≤ ST t then 1 else 0 := by
  unfold f_X4_isOver
  rw [tk_eq h2 ht]
  rcases h with h | ⟨-, h, h1⟩
  · rw [h]
    rcases (show ST t = 0 ∨ ST t = 1 ∨ ST t = 2 ∨ ST t = 3 by omega) with e | e | e | e <;> rw [e] <;> rfl
  · rw [h, h1]
    rfl
theorem rf_over {t : Nat} {τ : zS} {A : Nat → Int32} {ST : Nat → Nat} (hM : MRel τ A) (ht : t < 4) (h3 : ST t ≤ 3) (h : A (136 + 20 * t) = nI (ST t)) : f_X9_isOver (nI t) τ = (if 2 ≤ ST t then 1 else 0) ∧ p_X9_isOver (nI t) τ := by
  obtain ⟨-, -, -, -, e1, e2⟩ := rf_frm hM ht
  refine ⟨?_, e2⟩
  unfold f_X9_isOver
  rw [e1, h]
  rcases (show ST t = 0 ∨ ST t = 1 ∨ ST t = 2 ∨ ST t = 3 by omega) with e | e | e | e <;> rw [e] <;> rfl
theorem rf_many {τ : zS} {B W n : Nat} (hK : WK τ B W n) : f_X9_many τ = nI n ∧ p_X9_many τ := by
  unfold f_X9_many p_X9_many
  have := hK.1
  rw [hK.2.1, nI_clamp (by omega)]
  exact ⟨hK.2.2.2, vp_in_nI hK.1 (by decide)⟩
theorem nx_turn {al r t W n N B : Nat} {σ τ : zS} {A : Nat → Int32} {ST : Nat → Nat} (hl : Rly r) (hn : n ≤ 4) (ht : t < n) (hs : CSt σ r W n) (hC3 : σ.1 r 7 = nI t) (hSt : ∀ v, v < 4 → Sx al σ r ST v) (hK : WK τ B W n) (hM : MRel τ A) (hA3 : A 3 = -1) (hA : ∀ v, v < 4 → A (136 + 20 * v) = nI (ST v) ∧ ST v ≤ 3) : ∀ (m k : Nat), k + m = n + 1 → 1 ≤ k → ∀ z y, m + 1 < z → m + 1 < y → q_X4_nextTurn r N z (nI k) σ ∧ q_X9_passOn N y (nI t) (nI k) τ ∧ ∃ x : Int32, l_X4_nextTurn r N z (nI k) σ = x ∧ MRel (l_X9_passOn N y (nI t) (nI k) τ) (upd A 3 x) ∧ rfr sN τ (l_X9_passOn N y (nI t) (nI k) τ) ∧ ((x = -1 ∧ ∀ j, k ≤ j → j ≤ n → 2 ≤ ST ((t + j) % n)) ∨ ∃ v, v < n ∧ x = nI v ∧ ST v ≤ 1) := by
  obtain ⟨e1, e2⟩ := rf_many hK
  have n0 : ¬ nI n = 0 := nI_ne0 (by omega) (by omega)
  have m3 : τ.1 469 3 = -1 := (hM 3 (by omega)).trans hA3
  intro m
  induction m with
  | zero =>
    intro k hk k1 z y hz hy
    obtain ⟨z, rfl⟩ : ∃ q, z = q + 1 := ⟨z - 1, by omega⟩
    obtain ⟨y, rfl⟩ : ∃ q, y = q + 1 := ⟨y - 1, by omega⟩
    have c : nI n < nI k := nI_lt (by omega) (by omega)
    rw [q_X4_nextTurn, l_X4_nextTurn, q_X9_passOn, l_X9_passOn, hs.2.1, e1, if_pos c, if_pos c]
    refine ⟨fun q => absurd c q, ⟨e2, fun q => absurd c q⟩, -1, rfl, ?_, rfr.rf, Or.inl ⟨rfl, fun j h1 h2 => absurd h1 (by omega)⟩⟩
    rw [upd_same hA3]
    exact hM
  | succ m ih =>
    intro k hk k1 z y hz hy
    obtain ⟨z, rfl⟩ : ∃ q, z = q + 1 := ⟨z - 1, by omega⟩
    obtain ⟨y, rfl⟩ : ∃ q, y = q + 1 := ⟨y - 1, by omega⟩
    have c : ¬ nI n < nI k := nI_nlt (by omega) (by omega)
    have hv : (t + k) % n < n := Nat.mod_lt _ (by omega)
    have hv4 : (t + k) % n < 4 := by omega
    have er : (nI t + nI k) - (nI t + nI k) / nI n * nI n = nI ((t + k) % n) := by rw [nI_add, pk_rem (by omega) (by omega) (by omega)]
    have oc := cl_over hs.2.2 hv4 (hA _ hv4).2 (hSt _ hv4)
    obtain ⟨om, op⟩ := rf_over hM hv4 (hA _ hv4).2 (hA _ hv4).1
    have c3 : ¬ (0 : Int32) ≤ -1 := by decide
    obtain ⟨i1, i2, x, i3, i4, i5, i6⟩ := ih (k + 1) (by omega) (by omega) z y (by omega) (by omega)
    by_cases co : 2 ≤ ST ((t + k) % n)
    · rw [if_pos co] at oc om
      have lc : l_X4_nextTurn r N (z + 1) (nI k) σ = l_X4_nextTurn r N z (nI k + 1) σ ∧ q_X4_nextTurn r N (z + 1) (nI k) σ := by
        rw [q_X4_nextTurn, l_X4_nextTurn, hs.2.1, hC3, if_neg c, nI_add]
        by_cases cw : n ≤ t + k
        · have e : (t + k) % n = t + k - n := by rw [Nat.mod_eq_sub_mod cw, Nat.mod_eq_of_lt (by omega)]
          rw [e] at oc
          rw [if_pos (nI_le cw (by omega)), pk_sub cw, oc, if_neg (by decide)]
          refine ⟨rfl, fun _ => ⟨fun _ => ⟨tk_p hl hs.2.2 (by omega), fun _ => by rw [nI_1]; exact i1⟩, fun q => absurd (nI_le cw (by omega)) q⟩⟩
        · have e : (t + k) % n = t + k := Nat.mod_eq_of_lt (by omega)
          rw [e] at oc
          rw [if_neg (nI_ge (by omega) (by omega)), oc, if_neg (by decide)]
          refine ⟨rfl, fun _ => ⟨fun q => absurd q (nI_ge (by omega) (by omega)), fun _ => ⟨tk_p hl hs.2.2 (by omega), fun _ => by rw [nI_1]; exact i1⟩⟩⟩
      have lm : l_X9_passOn N (y + 1) (nI t) (nI k) τ = l_X9_passOn N y (nI t) (nI (k + 1)) τ := by rw [l_X9_passOn, e1, if_neg c, m3, if_neg c3, er, om, if_neg (by decide), nI_1]
      refine ⟨lc.2, ?_, x, ?_, ?_, ?_, ?_⟩
      · rw [q_X9_passOn, e1, m3, er, om, nI_1]
        exact ⟨e2, fun _ _ => ⟨e2, n0, op, fun _ => i2, fun q => absurd q (by decide)⟩⟩
      · rw [lc.1, nI_1]
        exact i3
      · rw [lm]
        exact i4
      · rw [lm]
        exact i5
      · rcases i6 with ⟨j1, j2⟩ | j
        · refine Or.inl ⟨j1, fun j h1 h2 => ?_⟩
          by_cases cj : j = k
          · rw [cj]
            exact co
          · exact j2 j (by omega) h2
        · exact Or.inr j
    · rw [if_neg co] at oc om
      have lc : l_X4_nextTurn r N (z + 1) (nI k) σ = nI ((t + k) % n) ∧ q_X4_nextTurn r N (z + 1) (nI k) σ := by
        rw [q_X4_nextTurn, l_X4_nextTurn, hs.2.1, hC3, if_neg c, nI_add]
        by_cases cw : n ≤ t + k
        · have e : (t + k) % n = t + k - n := by rw [Nat.mod_eq_sub_mod cw, Nat.mod_eq_of_lt (by omega)]
          rw [e] at oc
          rw [if_pos (nI_le cw (by omega)), pk_sub cw, oc, if_pos rfl, e]
          refine ⟨rfl, fun _ => ⟨fun _ => ⟨tk_p hl hs.2.2 (by omega), fun q => absurd rfl q⟩, fun q => absurd (nI_le cw (by omega)) q⟩⟩
        · have e : (t + k) % n = t + k := Nat.mod_eq_of_lt (by omega)
          rw [e] at oc
          rw [if_neg (nI_ge (by omega) (by omega)), oc, if_pos rfl, e]
          refine ⟨rfl, fun _ => ⟨fun q => absurd q (nI_ge (by omega) (by omega)), fun _ => ⟨tk_p hl hs.2.2 (by omega), fun q => absurd rfl q⟩⟩⟩
      have eu : u_X9_passOn_h0_1 N (nI t) (nI k) τ = zuI τ 469 3 (nI ((t + k) % n)) := by
        unfold u_X9_passOn_h0_1
        rw [e1, er]
      have fz : rfr sN τ (zuI τ 469 3 (nI ((t + k) % n))) := rfr.rf.uI (show sN 469 3 from ⟨rfl, by omega⟩)
      obtain ⟨f1, f2⟩ := rf_many (hK.fr fz (fun q j w => sN_W w))
      obtain ⟨y, rfl⟩ : ∃ q, y = q + 1 := ⟨y - 1, by omega⟩
      have c4 : (0 : Int32) ≤ nI ((t + k) % n) := nI_pos' (by omega)
      have lend : l_X9_passOn N (y + 1) (nI t) (nI (k + 1)) (zuI τ 469 3 (nI ((t + k) % n))) = zuI τ 469 3 (nI ((t + k) % n)) ∧ q_X9_passOn N (y + 1) (nI t) (nI (k + 1)) (zuI τ 469 3 (nI ((t + k) % n))) := by
        rw [l_X9_passOn, q_X9_passOn, gI_h rfl rfl]
        refine ⟨?_, f2, fun _ q => absurd c4 q⟩
        by_cases cc : f_X9_many (zuI τ 469 3 (nI ((t + k) % n))) < nI (k + 1)
        · rw [if_pos cc]
        · rw [if_neg cc, if_pos c4]
      have lm : l_X9_passOn N (y + 1 + 1) (nI t) (nI k) τ = zuI τ 469 3 (nI ((t + k) % n)) := by rw [l_X9_passOn, e1, if_neg c, m3, if_neg c3, er, om, if_pos rfl, eu, nI_1, lend.1]
      refine ⟨lc.2, ?_, nI ((t + k) % n), lc.1, ?_, ?_, Or.inr ⟨(t + k) % n, hv, rfl, by omega⟩⟩
      · rw [q_X9_passOn, e1, m3, er, om, eu, nI_1]
        exact ⟨e2, fun _ _ => ⟨e2, n0, op, fun q => absurd rfl q, fun _ => ⟨e2, lend.2⟩⟩⟩
      · rw [lm]
        exact hM.up
      · rw [lm]
        exact fz
