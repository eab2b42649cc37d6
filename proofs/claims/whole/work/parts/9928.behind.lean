/-! behind a unit: operators that wait are laid -/
section IS
variable {nb N b : Nat} {tx : Nat → Nat} {σ τ τ1 : zS} {K : aK}
def opK (kd : Nat) : Nat := if kd = 43 then 2 else if kd = 45 then 3 else if kd = 42 then 4 else if kd = 47 then 5 else if kd = 37 then 6 else 0
theorem rf_between {s e kd v w : Nat} (h : TKs tx nb s e kd v w σ τ) (g : TM nb tx τ) (h0 : τ.1 468 25 = 0) : p_X9_between τ ∧ f_X9_between τ = (if opK kd = 0 then -1 else nI (opK kd)) := by
  have n10 : ¬ (1 : Int32) = 0 := by decide
  have a1 := rk_at (c := 43) h g h0 (by decide)
  have a2 := rk_at (c := 45) h g h0 (by decide)
  have a3 := rk_at (c := 42) h g h0 (by decide)
  have a4 := rk_at (c := 47) h g h0 (by decide)
  have a5 := rk_at (c := 37) h g h0 (by decide)
  refine ⟨⟨a1.1, fun _ => ⟨a2.1, fun _ => ⟨a3.1, fun _ => ⟨a4.1, fun _ => a5.1⟩⟩⟩⟩, ?_⟩
  have e1 : f_X9_isAt 43 τ = if kd = 43 then 1 else 0 := a1.2
  have e2 : f_X9_isAt 45 τ = if kd = 45 then 1 else 0 := a2.2
  have e3 : f_X9_isAt 42 τ = if kd = 42 then 1 else 0 := a3.2
  have e4 : f_X9_isAt 47 τ = if kd = 47 then 1 else 0 := a4.2
  have e5 : f_X9_isAt 37 τ = if kd = 37 then 1 else 0 := a5.2
  unfold f_X9_between opK
  rw [e1, e2, e3, e4, e5]
  by_cases c1 : kd = 43
  · simp only [c1, if_pos]; decide
  · by_cases c2 : kd = 45
    · simp only [c2, if_pos]; decide
    · by_cases c3 : kd = 42
      · simp only [c3, if_pos]; decide
      · by_cases c4 : kd = 47
        · simp only [c4, if_pos]; decide
        · by_cases c5 : kd = 37
          · simp only [c5, if_pos]; decide
          · simp only [c1, c2, c3, c4, c5, if_neg, if_false, if_true]
def bnd (w : Nat) : Nat := if w = 2 ∨ w = 3 then 1 else if 4 ≤ w ∧ w ≤ 6 then 2 else 0
theorem bnd_128 : ∀ w : Fin 128, f_X9_bindsBy (nI w.1) = nI (bnd w.1) ∧ bnd w.1 ≤ 2 := by decide +kernel
theorem bnd_eq {w : Nat} (h : w < 128) : f_X9_bindsBy (nI w) = nI (bnd w) ∧ bnd w ≤ 2 := bnd_128 ⟨w, h⟩
theorem bnd_m1 : f_X9_bindsBy (-1) = 0 := by decide
/-- how tightly the top binds -/
def bndT (wt : Nat) (W : Nat → Nat) : Nat := if wt = 0 then 0 else bnd (W (wt - 1))
theorem SKs.bnd {wt : Nat} {W : Nat → Nat} (h : SKs τ wt W) : f_X9_bindsBy (f_X9_top τ) = nI (bndT wt W) ∧ bndT wt W ≤ 2 := by
  rw [h.top.2]
  unfold tpW bndT
  by_cases c : wt = 0
  · rw [if_pos c, if_pos c, bnd_m1]
    exact ⟨rfl, by decide⟩
  · rw [if_neg c, if_neg c]
    exact bnd_eq (h.2.2 (wt - 1) (by omega)).1
/-- all that waits of a sum is laid, then the sum ends -/
theorem rb_end (hb : b < 2) {wt : Nat} {W : Nat → Nat} {v2 : Int32} (h0 : bndT wt W = 0) : ∀ (m L : Nat) (τ : zS), SKs τ (wt + m) W → (∀ i, wt ≤ i → i < wt + m → 1 ≤ bnd (W i)) → MKc τ b K L → L + m ≤ 400 → (∀ i, i < m → K.1 (L + i) = W (wt + m - 1 - i) ∧ K.2.1 (L + i) = 0) → ∀ z, ∃ τ1, l_X9_goBehind N (z + m + 1) 1 (nI b) v2 τ = s_X9_endSum (nI b) N τ1 ∧ (p_X9_endSum (nI b) N τ1 → q_X9_goBehind N (z + m + 1) 1 (nI b) v2 τ) ∧ SKs τ1 wt W ∧ MKc τ1 b K (L + m) ∧ rfr (fun Q j => sLa b Q j ∨ (Q = 468 ∧ j = 37)) τ τ1 := by
  intro m
  induction m with
  | zero =>
    intro L τ hS hW hM hL hK z
    have hB : f_X9_bindsBy (f_X9_top τ) = 0 := by
      rw [hS.bnd.1]
      have : bndT (wt + 0) W = 0 := h0
      rw [this]
      rfl
    have z0 : (0 : Int32) ≤ 0 := by decide
    refine ⟨τ, ?_, fun y => ?_, hS, hM, rfr.rf⟩
    · rw [l_X9_goBehind, hB, if_pos z0]
      rfl
    · rw [q_X9_goBehind, hB]
      exact ⟨hS.top.1, fun _ => y, fun y1 => absurd z0 y1⟩
  | succ m ih =>
    intro L τ hS hW hM hL hK z
    have b1 : 1 ≤ bndT (wt + (m + 1)) W := by
      unfold bndT
      rw [if_neg (by omega)]
      exact hW _ (by omega) (by omega)
    have b2 := hS.bnd.2
    have hB : ¬ f_X9_bindsBy (f_X9_top τ) ≤ 0 := by
      rw [hS.bnd.1]
      exact nI_nle (by omega) (by omega)
    obtain ⟨k1, k2⟩ := hK 0 (by omega)
    have k1 : K.1 L = W (wt + m) := by
      rw [Nat.add_zero] at k1
      rw [k1]
      congr 1
    have k2 : K.2.1 L = 0 := k2
    obtain ⟨l1, l2, l3, l4⟩ := rf_layTop (wt := wt + m) hS hM hb (by omega) k1.symm k2
    have hK1 : ∀ i, i < m → K.1 (L + 1 + i) = W (wt + m - 1 - i) ∧ K.2.1 (L + 1 + i) = 0 := fun i hi => by
      obtain ⟨a1, a2⟩ := hK (i + 1) (by omega)
      refine ⟨?_, ?_⟩
      · rw [show L + 1 + i = L + (i + 1) by omega, a1]
        congr 1
        omega
      · rw [show L + 1 + i = L + (i + 1) by omega, a2]
    obtain ⟨τ1, i1, i2, i3, i4, i5⟩ := ih (L + 1) _ l2 (fun i j1 j2 => hW i j1 (by omega)) l3 (by omega) hK1 z
    have eu : u_X9_goBehind_h1_2 N (nI b) v2 τ = s_X9_layTop (nI b) τ := rfl
    refine ⟨τ1, ?_, fun y => ?_, i3, by rw [show L + (m + 1) = L + 1 + m by omega]; exact i4, l4.tr i5⟩
    · rw [show z + (m + 1) + 1 = (z + m + 1) + 1 by omega, l_X9_goBehind, if_neg hB, eu, i1]
    · rw [show z + (m + 1) + 1 = (z + m + 1) + 1 by omega, q_X9_goBehind, eu]
      exact ⟨hS.top.1, fun y1 => absurd y1 hB, fun _ => ⟨l1, i2 y⟩⟩
/-- before an operator all that binds as tightly is laid; then it waits -/
theorem rb_op (hb : b < 2) {wt o : Nat} {W : Nat → Nat} (ho : o < 128) (h0 : wt = 0 ∨ bndT wt W < bnd o) (hw : wt < 90) : ∀ (m L : Nat) (τ : zS), SKs τ (wt + m) W → (∀ i, wt ≤ i → i < wt + m → bnd o ≤ bnd (W i)) → MKc τ b K L → L + m ≤ 400 → (∀ i, i < m → K.1 (L + i) = W (wt + m - 1 - i) ∧ K.2.1 (L + i) = 0) → ∀ z, ∃ τ1, l_X9_goBehind N (z + m + 1) 0 (nI b) (nI o) τ = zuI (s_X9_scan N (s_X9_push (nI o) 0 0 τ1)) 468 39 1 ∧ (p_X9_scan N (s_X9_push (nI o) 0 0 τ1) → q_X9_goBehind N (z + m + 1) 0 (nI b) (nI o) τ) ∧ SKs τ1 wt W ∧ MKc τ1 b K (L + m) ∧ rfr (fun Q j => sLa b Q j ∨ (Q = 468 ∧ j = 37)) τ τ1 := by
  have bo := (bnd_eq ho).2
  intro m
  induction m with
  | zero =>
    intro L τ hS hW hM hL hK z
    have hS : SKs τ wt W := hS
    obtain ⟨p1, -⟩ := rf_push (x := 0) (y := 0) hS (by omega) ho
    refine ⟨τ, ?_, fun y => ?_, hS, hM, rfr.rf⟩
    · rw [l_X9_goBehind]
      by_cases c : τ.1 468 37 ≤ 0
      · rw [if_pos c]; rfl
      · rw [if_neg c]
        have c2 : f_X9_bindsBy (f_X9_top τ) < f_X9_bindsBy (nI o) := by
          rw [hS.bnd.1, (bnd_eq ho).1]
          rcases h0 with y | y
          · exact absurd (by rw [hS.1, y]; decide) c
          · exact nI_lt y (by omega)
        rw [if_pos c2]
        rfl
    · rw [q_X9_goBehind]
      refine ⟨fun _ => ⟨p1, y⟩, fun c => ⟨hS.top.1, fun _ => ⟨p1, y⟩, fun c2 => ?_⟩⟩
      exfalso
      apply c2
      rw [hS.bnd.1, (bnd_eq ho).1]
      rcases h0 with y | y
      · exact absurd (by rw [hS.1, y]; decide) c
      · exact nI_lt y (by omega)
  | succ m ih =>
    intro L τ hS hW hM hL hK z
    have hw2 := hS.2.1
    have c : ¬ τ.1 468 37 ≤ 0 := by
      rw [hS.1]
      exact nI_nle (by omega) (by omega)
    have b1 : bnd o ≤ bndT (wt + (m + 1)) W := by
      unfold bndT
      rw [if_neg (by omega)]
      exact hW _ (by omega) (by omega)
    have b2 := hS.bnd.2
    have hB : ¬ f_X9_bindsBy (f_X9_top τ) < f_X9_bindsBy (nI o) := by
      rw [hS.bnd.1, (bnd_eq ho).1]
      exact nI_nlt (by omega) (by omega)
    obtain ⟨k1, k2⟩ := hK 0 (by omega)
    have k1 : K.1 L = W (wt + m) := by
      rw [Nat.add_zero] at k1
      rw [k1]
      congr 1
    have k2 : K.2.1 L = 0 := k2
    obtain ⟨l1, l2, l3, l4⟩ := rf_layTop (wt := wt + m) hS hM hb (by omega) k1.symm k2
    have hK1 : ∀ i, i < m → K.1 (L + 1 + i) = W (wt + m - 1 - i) ∧ K.2.1 (L + 1 + i) = 0 := fun i hi => by
      obtain ⟨a1, a2⟩ := hK (i + 1) (by omega)
      refine ⟨?_, ?_⟩
      · rw [show L + 1 + i = L + (i + 1) by omega, a1]
        congr 1
        omega
      · rw [show L + 1 + i = L + (i + 1) by omega, a2]
    obtain ⟨τ1, i1, i2, i3, i4, i5⟩ := ih (L + 1) _ l2 (fun i j1 j2 => hW i j1 (by omega)) l3 (by omega) hK1 z
    have eu : u_X9_goBehind_h0_7 N (nI b) (nI o) τ = s_X9_layTop (nI b) τ := rfl
    refine ⟨τ1, ?_, fun y => ?_, i3, by rw [show L + (m + 1) = L + 1 + m by omega]; exact i4, l4.tr i5⟩
    · rw [show z + (m + 1) + 1 = (z + m + 1) + 1 by omega, l_X9_goBehind, if_neg c, if_neg hB, eu, i1]
    · rw [show z + (m + 1) + 1 = (z + m + 1) + 1 by omega, q_X9_goBehind, eu]
      exact ⟨fun y1 => absurd y1 c, fun _ => ⟨hS.top.1, fun y1 => absurd y1 hB, fun _ => ⟨l1, i2 y⟩⟩⟩
end IS
