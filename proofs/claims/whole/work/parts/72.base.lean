/-! reading a changed state; the indices of the reference and of the class -/
theorem gI_h {τ : zS} {a k q j : Nat} {x : Int32} (h1 : q = a) (h2 : j = k) : (zuI τ a k x).1 q j = x := if_pos ⟨h1, h2⟩
theorem gI_n {τ : zS} {a k q j : Nat} {x : Int32} (h : ¬ (q = a ∧ j = k)) : (zuI τ a k x).1 q j = τ.1 q j := if_neg h
theorem zuI_com {τ : zS} {a k b j : Nat} {x y : Int32} (h : ¬ (a = b ∧ k = j)) : zuI (zuI τ a k x) b j y = zuI (zuI τ b j y) a k x := by
  refine zext (fun q i => ?_) (fun q i => rfl)
  show (if q = b ∧ i = j then y else if q = a ∧ i = k then x else τ.1 q i) = if q = a ∧ i = k then x else if q = b ∧ i = j then y else τ.1 q i
  by_cases c1 : q = b ∧ i = j
  · rw [if_pos c1, if_pos c1, if_neg (by omega)]
  · rw [if_neg c1, if_neg c1]
theorem zuI_two {τ : zS} {a k : Nat} {x y : Int32} : zuI (zuI τ a k x) a k y = zuI τ a k y := by
  refine zext (fun q i => ?_) (fun q i => rfl)
  show (if q = a ∧ i = k then y else if q = a ∧ i = k then x else τ.1 q i) = if q = a ∧ i = k then y else τ.1 q i
  by_cases c1 : q = a ∧ i = k
  · rw [if_pos c1, if_pos c1]
  · rw [if_neg c1, if_neg c1, if_neg c1]
theorem nI_p0 (n : Nat) : nI n + 0 = nI n := by rw [(show (0 : Int32) = nI 0 from rfl), nI_add, Nat.add_zero]
theorem nI_s1 {n : Nat} (h : 1 ≤ n) : nI n - 1 = nI (n - 1) := by rw [(show (1 : Int32) = nI 1 from rfl), pk_sub h]
theorem nI_m1 {n : Nat} (h : 1 ≤ n) : nI n + (-1) = nI (n - 1) := by
  obtain ⟨m, rfl⟩ : ∃ m, n = m + 1 := ⟨n - 1, by omega⟩
  rw [pk_m1]
  rfl
/-! where things lie in the reference's row -/
theorem at_0 (t : Nat) : f_X9_atTask (nI t) 0 = nI (136 + 20 * t + 0) := by
  unfold f_X9_atTask
  rw [(show (136 : Int32) = nI 136 from rfl), (show (20 : Int32) = nI 20 from rfl), (show (0 : Int32) = nI 0 from rfl), pk_mul, nI_add, nI_add]
theorem at_1 (t : Nat) : f_X9_atTask (nI t) 1 = nI (136 + 20 * t + 1) := by
  unfold f_X9_atTask
  rw [(show (136 : Int32) = nI 136 from rfl), (show (20 : Int32) = nI 20 from rfl), (show (1 : Int32) = nI 1 from rfl), pk_mul, nI_add, nI_add]
theorem at_2 (t : Nat) : f_X9_atTask (nI t) 2 = nI (136 + 20 * t + 2) := by
  unfold f_X9_atTask
  rw [(show (136 : Int32) = nI 136 from rfl), (show (20 : Int32) = nI 20 from rfl), (show (2 : Int32) = nI 2 from rfl), pk_mul, nI_add, nI_add]
theorem at_3 (t : Nat) : f_X9_atTask (nI t) 3 = nI (136 + 20 * t + 3) := by
  unfold f_X9_atTask
  rw [(show (136 : Int32) = nI 136 from rfl), (show (20 : Int32) = nI 20 from rfl), (show (3 : Int32) = nI 3 from rfl), pk_mul, nI_add, nI_add]
theorem at_4 (t : Nat) : f_X9_atTask (nI t) 4 = nI (136 + 20 * t + 4) := by
  unfold f_X9_atTask
  rw [(show (136 : Int32) = nI 136 from rfl), (show (20 : Int32) = nI 20 from rfl), (show (4 : Int32) = nI 4 from rfl), pk_mul, nI_add, nI_add]
theorem at_5 (t : Nat) : f_X9_atTask (nI t) 5 = nI (136 + 20 * t + 5) := by
  unfold f_X9_atTask
  rw [(show (136 : Int32) = nI 136 from rfl), (show (20 : Int32) = nI 20 from rfl), (show (5 : Int32) = nI 5 from rfl), pk_mul, nI_add, nI_add]
theorem at_6 (t : Nat) : f_X9_atTask (nI t) 6 = nI (136 + 20 * t + 6) := by
  unfold f_X9_atTask
  rw [(show (136 : Int32) = nI 136 from rfl), (show (20 : Int32) = nI 20 from rfl), (show (6 : Int32) = nI 6 from rfl), pk_mul, nI_add, nI_add]
theorem at_7 (t : Nat) : f_X9_atTask (nI t) 7 = nI (136 + 20 * t + 7) := by
  unfold f_X9_atTask
  rw [(show (136 : Int32) = nI 136 from rfl), (show (20 : Int32) = nI 20 from rfl), (show (7 : Int32) = nI 7 from rfl), pk_mul, nI_add, nI_add]
theorem at_8 (t : Nat) : f_X9_atTask (nI t) 8 = nI (136 + 20 * t + 8) := by
  unfold f_X9_atTask
  rw [(show (136 : Int32) = nI 136 from rfl), (show (20 : Int32) = nI 20 from rfl), (show (8 : Int32) = nI 8 from rfl), pk_mul, nI_add, nI_add]
theorem at_9 (t : Nat) : f_X9_atTask (nI t) 9 = nI (136 + 20 * t + 9) := by
  unfold f_X9_atTask
  rw [(show (136 : Int32) = nI 136 from rfl), (show (20 : Int32) = nI 20 from rfl), (show (9 : Int32) = nI 9 from rfl), pk_mul, nI_add, nI_add]
theorem at_10 (t : Nat) : f_X9_atTask (nI t) 10 = nI (136 + 20 * t + 10) := by
  unfold f_X9_atTask
  rw [(show (136 : Int32) = nI 136 from rfl), (show (20 : Int32) = nI 20 from rfl), (show (10 : Int32) = nI 10 from rfl), pk_mul, nI_add, nI_add]
theorem at_11 (t : Nat) : f_X9_atTask (nI t) 11 = nI (136 + 20 * t + 11) := by
  unfold f_X9_atTask
  rw [(show (136 : Int32) = nI 136 from rfl), (show (20 : Int32) = nI 20 from rfl), (show (11 : Int32) = nI 11 from rfl), pk_mul, nI_add, nI_add]
theorem at_12 (t : Nat) : f_X9_atTask (nI t) 12 = nI (136 + 20 * t + 12) := by
  unfold f_X9_atTask
  rw [(show (136 : Int32) = nI 136 from rfl), (show (20 : Int32) = nI 20 from rfl), (show (12 : Int32) = nI 12 from rfl), pk_mul, nI_add, nI_add]
theorem at_n (t k : Nat) : f_X9_atTask (nI t) (nI k) = nI (136 + 20 * t + k) := by
  unfold f_X9_atTask
  rw [(show (136 : Int32) = nI 136 from rfl), (show (20 : Int32) = nI 20 from rfl), pk_mul, nI_add, nI_add]
theorem fr_n {t f k : Nat} (hf : 1 ≤ f) : f_X9_atFrame (nI t) (nI f) (nI k) = nI (237 + 2801 * t + 6 * (f - 1) + k) := by
  unfold f_X9_atFrame
  rw [nI_s1 hf, (show (236 : Int32) = nI 236 from rfl), (show (2801 : Int32) = nI 2801 from rfl), (show (1 : Int32) = nI 1 from rfl), (show (6 : Int32) = nI 6 from rfl), pk_mul, pk_mul, nI_add, nI_add, nI_add, nI_add]
  congr 1
  omega
theorem fr_0 {t f : Nat} (hf : 1 ≤ f) : f_X9_atFrame (nI t) (nI f) 0 = nI (237 + 2801 * t + 6 * (f - 1)) := (fr_n (k := 0) hf).trans rfl
theorem fr_1 {t f : Nat} (hf : 1 ≤ f) : f_X9_atFrame (nI t) (nI f) 1 = nI (238 + 2801 * t + 6 * (f - 1)) := by
  refine (fr_n (k := 1) hf).trans ?_
  congr 1
  omega
theorem fr_v {t f i : Nat} (hf : 1 ≤ f) : f_X9_atFrame (nI t) (nI f) (2 + nI i) = nI (239 + 2801 * t + 6 * (f - 1) + i) := by
  rw [(show (2 : Int32) = nI 2 from rfl), nI_add, fr_n hf]
  congr 1
  omega
theorem sk_n (t j : Nat) : f_X9_atStack (nI t) (nI j) = nI (597 + 2801 * t + j) := by
  unfold f_X9_atStack
  rw [(show (236 : Int32) = nI 236 from rfl), (show (2801 : Int32) = nI 2801 from rfl), (show (361 : Int32) = nI 361 from rfl), pk_mul, nI_add, nI_add, nI_add]
  congr 1
  omega
theorem li_n (t : Nat) : f_X9_atLies (nI t) = nI (236 + 2801 * t) := by
  unfold f_X9_atLies
  rw [(show (236 : Int32) = nI 236 from rfl), (show (2801 : Int32) = nI 2801 from rfl), pk_mul, nI_add, nI_p0]
/-! at and put -/
theorem at_p {n q : Nat} {x : Int32} {σ : zS} (hn : n < 2 ^ 31) : p_X8_at n q x σ := by
  intro h1 h2
  rcases pk_ix x hn with h | h | ⟨j, hj, rfl⟩
  · exact absurd h h1
  · exact absurd h h2
  · exact vp_in_nI hj hn
theorem put_p {n q : Nat} {x y : Int32} {σ : zS} (hn : n < 2 ^ 31) : p_X8_put n q x y σ := by
  intro h1 h2
  rcases pk_ix x hn with h | h | ⟨j, hj, rfl⟩
  · exact absurd h h1
  · exact absurd h h2
  · exact vp_in_nI hj hn
theorem at_i {n q i : Nat} {σ : zS} (hi : i < n) (hn : n < 2 ^ 31) : f_X8_at n q (nI i) σ = σ.1 q i := by
  unfold f_X8_at
  rw [if_neg (nI_pos (by omega)), if_neg (show ¬ Int32.ofNat n ≤ nI i from nI_ge hi hn), nI_clamp (by omega)]
theorem at_hi {n q i : Nat} {σ : zS} (hi : n ≤ i) (hn : i < 2 ^ 31) : f_X8_at n q (nI i) σ = 0 := by
  unfold f_X8_at
  rw [if_neg (nI_pos (by omega)), if_pos (show Int32.ofNat n ≤ nI i from nI_le hi hn)]
theorem put_i {n q i : Nat} {y : Int32} {σ : zS} (hi : i < n) (hn : n < 2 ^ 31) : s_X8_put n q (nI i) y σ = zuI σ q i y := by
  unfold s_X8_put u_X8_put_1
  rw [if_neg (nI_pos (by omega)), if_neg (show ¬ Int32.ofNat n ≤ nI i from nI_ge hi hn), nI_clamp (by omega)]
/-! what a part of the program leaves alone -/
def zfr (lo hi : Nat) (σ σ1 : zS) : Prop := ∀ q, (q < lo ∨ hi ≤ q) → σ1.1 q = σ.1 q ∧ σ1.2 q = σ.2 q
theorem zfr.rf {lo hi : Nat} {σ : zS} : zfr lo hi σ σ := fun _ _ => ⟨rfl, rfl⟩
theorem zfr.tr {lo hi : Nat} {σ σ1 σ2 : zS} (h : zfr lo hi σ σ1) (h1 : zfr lo hi σ1 σ2) : zfr lo hi σ σ2 := fun q hq => ⟨(h1 q hq).1.trans (h q hq).1, (h1 q hq).2.trans (h q hq).2⟩
theorem zfr.uI {lo hi a k : Nat} {x : Int32} {σ σ1 : zS} (h : zfr lo hi σ σ1) (ha : lo ≤ a ∧ a < hi) : zfr lo hi σ (zuI σ1 a k x) := fun q hq => ⟨(funext fun j => gI_n (by omega)).trans (h q hq).1, (h q hq).2⟩
theorem zfr.uR {lo hi a k n : Nat} {σ σ1 : zS} (h : zfr lo hi σ σ1) (ha : lo ≤ a ∧ a < hi) : zfr lo hi σ (zuR σ1 a k n) := fun q hq => ⟨(h q hq).1, (funext fun j => gR_a (by omega)).trans (h q hq).2⟩
theorem zfr.wk {lo hi lo1 hi1 : Nat} {σ σ1 : zS} (h : zfr lo hi σ σ1) (h1 : lo1 ≤ lo ∧ hi ≤ hi1) : zfr lo1 hi1 σ σ1 := fun q hq => h q (by omega)
theorem zfr.at {lo hi q j : Nat} {σ σ1 : zS} (h : zfr lo hi σ σ1) (hq : q < lo ∨ hi ≤ q) : σ1.1 q j = σ.1 q j := congrFun (h q hq).1 j
theorem zfr.at2 {lo hi q j : Nat} {σ σ1 : zS} (h : zfr lo hi σ σ1) (hq : q < lo ∨ hi ≤ q) : σ1.2 q j = σ.2 q j := congrFun (h q hq).2 j
