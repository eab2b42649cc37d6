/-! the constructors, by program (wip/whole/cons2.py): S = the cells that are still written to -/
def zrs (S : Nat → Bool) (o e : Nat) (σ τ : zS) : Prop := ∀ q j, S q = false → τ.1 q j = (if o ≤ q ∧ q < e then iI q j else σ.1 q j) ∧ τ.2 q j = (if o ≤ q ∧ q < e then iR q j else σ.2 q j)
theorem zrs.start {S : Nat → Bool} {o : Nat} {σ : zS} : zrs S o o σ σ := fun q j _ => ⟨(if_neg (by omega)).symm, (if_neg (by omega)).symm⟩
theorem zrs_ne {S : Nat → Bool} {q e : Nat} (hs : S e = true) (hq : S q = false) : ¬ q = e := fun z => by
  rw [z, hs] at hq
  cases hq
theorem zrs.spec {S : Nat → Bool} {o e : Nat} {σ τ : zS} (h : zrs S o e σ τ) (hs : S e = true) (ho : o ≤ e) : zrs S o (e + 1) σ (zu0 τ e) := by
  intro q j hq
  have hne := zrs_ne hs hq
  obtain ⟨h1, h2⟩ := h q j hq
  rw [zu0_ne1 hne, zu0_ne2 hne, h1, h2]
  by_cases c : o ≤ q ∧ q < e
  · have c1 : o ≤ q ∧ q < e + 1 := by omega
    rw [if_pos c, if_pos c, if_pos c1, if_pos c1]
    exact ⟨rfl, rfl⟩
  · have c1 : ¬ (o ≤ q ∧ q < e + 1) := by omega
    rw [if_neg c, if_neg c, if_neg c1, if_neg c1]
    exact ⟨rfl, rfl⟩
theorem zrs.ini {S : Nat → Bool} {o e e1 : Nat} {σ τ : zS} (h : zrs S o e σ τ) (ho : o ≤ e) (he : e ≤ e1) : zrs S o e1 σ (zini e e1 τ) := by
  intro q j hq
  obtain ⟨h1, h2⟩ := h q j hq
  rw [zini_at1, zini_at2, h1, h2]
  by_cases c : e ≤ q ∧ q < e1
  · have c1 : o ≤ q ∧ q < e1 := by omega
    rw [if_pos c, if_pos c, if_pos c1, if_pos c1]
    exact ⟨rfl, rfl⟩
  · rw [if_neg c, if_neg c]
    by_cases c2 : o ≤ q ∧ q < e
    · have c1 : o ≤ q ∧ q < e1 := by omega
      rw [if_pos c2, if_pos c2, if_pos c1, if_pos c1]
      exact ⟨rfl, rfl⟩
    · have c1 : ¬ (o ≤ q ∧ q < e1) := by omega
      rw [if_neg c2, if_neg c2, if_neg c1, if_neg c1]
      exact ⟨rfl, rfl⟩
theorem zrs.arr {S : Nat → Bool} {o e t n : Nat} {σ τ : zS} (h : zrs S o e σ τ) (ho : o ≤ e) (hz : zlay e = (t, n)) (ht : t = 20 ∨ t = 22) : zrs S o (e + 1) σ (zu0 τ e) := by
  rw [zini_arr hz ht]
  exact h.ini ho (by omega)
theorem zrs.uR {S : Nat → Bool} {o e a k n : Nat} {σ τ : zS} (h : zrs S o e σ τ) (hs : S a = true) : zrs S o e σ (zuR τ a k n) := by
  intro q j hq
  exact ⟨(h q j hq).1, (show (zuR τ a k n).2 q j = τ.2 q j from if_neg (fun z => zrs_ne hs hq z.1)).trans (h q j hq).2⟩
theorem zrs.uI {S : Nat → Bool} {o e a k : Nat} {x : Int32} {σ τ : zS} (h : zrs S o e σ τ) (hs : S a = true) : zrs S o e σ (zuI τ a k x) := by
  intro q j hq
  exact ⟨(show (zuI τ a k x).1 q j = τ.1 q j from if_neg (fun z => zrs_ne hs hq z.1)).trans (h q j hq).1, (h q j hq).2⟩
theorem zrs.done {S : Nat → Bool} {o e : Nat} {σ τ : zS} (h : zrs S o e σ τ) (hS : ∀ a, S a = true → (o ≤ a ∧ a < e) ∧ ∀ j, τ.1 a j = iI a j ∧ τ.2 a j = iR a j) : τ = zini o e σ := by
  refine zext (fun q j => ?_) (fun q j => ?_)
  · rw [zini_at1]
    cases hq : S q with
    | true => rw [if_pos (hS q hq).1]; exact ((hS q hq).2 j).1
    | false => exact (h q j hq).1
  · rw [zini_at2]
    cases hq : S q with
    | true => rw [if_pos (hS q hq).1]; exact ((hS q hq).2 j).2
    | false => exact (h q j hq).2
theorem gR_hit {τ : zS} {a k n : Nat} : (zuR τ a k n).2 a k = n := if_pos ⟨rfl, rfl⟩
theorem gR_k {τ : zS} {a k n j : Nat} (h : ¬ j = k) : (zuR τ a k n).2 a j = τ.2 a j := if_neg (fun z => h z.2)
theorem gR_a {τ : zS} {a k n q j : Nat} (h : ¬ q = a) : (zuR τ a k n).2 q j = τ.2 q j := if_neg (fun z => h z.1)
theorem gR_1 {τ : zS} {a k n q j : Nat} : (zuR τ a k n).1 q j = τ.1 q j := rfl
theorem gI_hit {τ : zS} {a k : Nat} {x : Int32} : (zuI τ a k x).1 a k = x := if_pos ⟨rfl, rfl⟩
theorem gI_k {τ : zS} {a k j : Nat} {x : Int32} (h : ¬ j = k) : (zuI τ a k x).1 a j = τ.1 a j := if_neg (fun z => h z.2)
theorem gI_a {τ : zS} {a k q j : Nat} {x : Int32} (h : ¬ q = a) : (zuI τ a k x).1 q j = τ.1 q j := if_neg (fun z => h z.1)
theorem gI_2 {τ : zS} {a k q j : Nat} {x : Int32} : (zuI τ a k x).2 q j = τ.2 q j := rfl
theorem g0_hit1 {τ : zS} {a j : Nat} : (zu0 τ a).1 a j = 0 := if_pos rfl
theorem g0_hit2 {τ : zS} {a j : Nat} : (zu0 τ a).2 a j = 0 := if_pos rfl
theorem gi_1 {τ : zS} {e f q j : Nat} (h : q < e ∨ f ≤ q) : (zini e f τ).1 q j = τ.1 q j := if_neg (by omega)
theorem gi_2 {τ : zS} {e f q j : Nat} (h : q < e ∨ f ≤ q) : (zini e f τ).2 q j = τ.2 q j := if_neg (by omega)
/-- Arrays.fill -/
theorem fill_l {n1 a N n : Nat} {x : Int32} (hn : n < 2 ^ 31) : ∀ (m k : Nat) (σ : zS), k ≤ n → n < m + k → l_J7_fill_53178 n1 a N m x (nI k) (nI n) σ = (fun q j => if q = a ∧ k ≤ j ∧ j < n then x else σ.1 q j, σ.2) := by
  intro m
  induction m with
  | zero => intro k σ h1 h2; omega
  | succ m ih =>
    intro k σ h1 h2
    rw [l_J7_fill_53178]
    by_cases c : k = n
    · rw [if_pos (nI_le (by omega) (by omega))]
      refine zext (fun q j => ?_) (fun q j => rfl)
      exact (if_neg (by omega)).symm
    · rw [if_neg (nI_ge (by omega) hn), nI_1, ih (k + 1) _ (by omega) (by omega)]
      refine zext (fun q j => ?_) (fun q j => rfl)
      show (if q = a ∧ k + 1 ≤ j ∧ j < n then x else if q = a ∧ j = (nI k).toNatClampNeg then x else σ.1 q j) = if q = a ∧ k ≤ j ∧ j < n then x else σ.1 q j
      rw [nI_clamp (by omega)]
      by_cases c1 : q = a ∧ k + 1 ≤ j ∧ j < n
      · rw [if_pos c1, if_pos (by omega)]
      · rw [if_neg c1]
        by_cases c2 : q = a ∧ j = k
        · rw [if_pos c2, if_pos (by omega)]
        · rw [if_neg c2, if_neg (by omega)]
theorem fill_q {n1 a N n : Nat} {x : Int32} (hn : n < 2 ^ 31) (h1 : n ≤ n1) (h2 : n1 < 2 ^ 31) : ∀ (m k : Nat) (σ : zS), k ≤ n → n < m + k → q_J7_fill_53178 n1 a N m x (nI k) (nI n) σ := by
  intro m
  induction m with
  | zero => intro k σ h1 h2; omega
  | succ m ih =>
    intro k σ h3 h4
    rw [q_J7_fill_53178]
    intro c
    have c1 : k < n := by
      apply Nat.lt_of_le_of_ne h3
      intro z
      exact c (nI_le (by omega) (by omega))
    refine ⟨vp_in_nI (by omega) h2, ?_⟩
    rw [nI_1]
    exact ih (k + 1) _ (by omega) (by omega)
theorem fill_eq {n a N : Nat} {x : Int32} {σ : zS} (hn : n < 2 ^ 31) (hN : n < N) : s_J7_fill_53178 n a x N σ = (fun q j => if q = a ∧ j < n then x else σ.1 q j, σ.2) := by
  refine (fill_l hn N 0 σ (by omega) (by omega)).trans (zext (fun q j => ?_) (fun q j => rfl))
  show (if q = a ∧ 0 ≤ j ∧ j < n then x else σ.1 q j) = if q = a ∧ j < n then x else σ.1 q j
  by_cases c : q = a ∧ j < n
  · rw [if_pos c, if_pos (by omega)]
  · rw [if_neg c, if_neg (by omega)]
theorem fill_p {n a N : Nat} {x : Int32} {σ : zS} (hn : n < 2 ^ 31) (hN : n < N) : p_J7_fill_53178 n a x N σ := fill_q hn (Nat.le_refl n) hn N 0 σ (by omega) (by omega)
theorem fill_same {n a N : Nat} {x : Int32} {σ : zS} (hn : n < 2 ^ 31) (hN : n < N) (h : ∀ j, σ.1 a j = x) : s_J7_fill_53178 n a x N σ = σ := by
  rw [fill_eq hn hN]
  refine zext (fun q j => ?_) (fun q j => rfl)
  show (if q = a ∧ j < n then x else σ.1 q j) = σ.1 q j
  by_cases c : q = a ∧ j < n
  · rw [if_pos c, c.1, h]
  · rw [if_neg c]
theorem iR_c {a c n k : Nat} (h : zlay a = (c, n)) (hc : c < 10) : iR a k = iRv a ((iRL.getD c []).getD k (0, 0)) := by
  unfold iR
  rw [h]
  match c, hc with
  | 0, _ => rfl
  | 1, _ => rfl
  | 2, _ => rfl
  | 3, _ => rfl
  | 4, _ => rfl
  | 5, _ => rfl
  | 6, _ => rfl
  | 7, _ => rfl
  | 8, _ => rfl
  | 9, _ => rfl
theorem iI_z {a c n k : Nat} (h : zlay a = (c, n)) (hc : c = 0 ∨ c = 1 ∨ c = 3 ∨ c = 4 ∨ c = 5 ∨ c = 6 ∨ c = 7 ∨ c = 23 ∨ c = 24 ∨ c = 25) : iI a k = 0 := by
  unfold iI
  rw [h]
  rcases hc with rfl | rfl | rfl | rfl | rfl | rfl | rfl | rfl | rfl | rfl <;> rfl
theorem iR_24 {a n k : Nat} (h : zlay a = (24, n)) : iR a k = if k < 4 then a + 2 + 5 * k else 0 := by
  unfold iR
  rw [h]
  rfl
theorem iR_25 {a n k : Nat} (h : zlay a = (25, n)) : iR a k = if k < 4 then 445 + 6 * k else 0 := by
  unfold iR
  rw [h]
  rfl
theorem iR_23 {a n k : Nat} (h : zlay a = (23, n)) : iR a k = if a = 31 then (if k < 13 then 33 + 25 * k else 0) else (if k < 2 then 395 + 25 * k else 0) := by
  unfold iR
  rw [h]
  rfl
/-! the layout of an object and what it makes -/
def ly_0 (d : Nat) : Nat × Nat := ([(0, 9), (20, 240), (20, 60), (20, 1680)] : List (Nat × Nat)).getD d (99, 0)
def ly_5 (d : Nat) : Nat × Nat := ([(5, 12), (0, 9), (20, 240), (20, 60), (20, 1680)] : List (Nat × Nat)).getD d (99, 0)
def ly_7 (d : Nat) : Nat × Nat := ([(7, 5), (0, 9), (20, 240), (20, 60), (20, 1680), (20, 3000)] : List (Nat × Nat)).getD d (99, 0)
def ly_2 (d : Nat) : Nat × Nat := ([(2, 16), (20, 6), (20, 6), (20, 4), (20, 16), (20, 400), (20, 400)] : List (Nat × Nat)).getD d (99, 0)
def ly_4 (d : Nat) : Nat × Nat := ([(4, 17), (20, 12), (20, 12), (20, 100), (24, 4), (5, 12), (0, 9), (20, 240), (20, 60), (20, 1680), (5, 12), (0, 9), (20, 240), (20, 60), (20, 1680), (5, 12), (0, 9), (20, 240), (20, 60), (20, 1680), (5, 12), (0, 9), (20, 240), (20, 60), (20, 1680)] : List (Nat × Nat)).getD d (99, 0)
theorem lyS_dec (L M : List (Nat × Nat)) (k n : Nat) (h : ((List.range n).all fun d => decide (L.getD (k + d) (99, 0) = M.getD d (99, 0))) = true) (d : Nat) (hd : d < n) : L.getD (k + d) (99, 0) = M.getD d (99, 0) := of_decide_eq_true (List.all_eq_true.mp h d (List.mem_range.mpr hd))
theorem m_X0 (o : Nat) (σ : zS) (hz : ∀ d, d < 4 → zlay (o + d) = ly_0 d) : (zuR (zu0 (zuR (zu0 (zuR (zu0 (zuR (zu0 σ o) o 4 1000001) (o + 1)) o 6 ((o + 1) + 1)) (o + 2)) o 7 ((o + 2) + 1)) (o + 3)) o 8 ((o + 3) + 1)) = zini o (o + 4) σ := by
  refine zrs.done (((((((((zrs.start (S := (fun a => Nat.beq a o)) (o := o) (σ := σ)).spec (by simp) (Nat.le_refl _)).uR (by simp)).arr (by omega) (hz 1 (by decide)) (Or.inl rfl)).uR (by simp)).arr (by omega) (hz 2 (by decide)) (Or.inl rfl)).uR (by simp)).arr (by omega) (hz 3 (by decide)) (Or.inl rfl)).uR (by simp)) (fun a ha => ?_)
  have ea : a = o := Nat.eq_of_beq_eq_true ha
  rw [ea]
  refine ⟨by omega, fun j => ⟨?_, ?_⟩⟩
  · rw [iI_z (show zlay o = (0, 9) from (hz 0 (by decide))) (by decide)]
    (repeat (first | refine Eq.trans (gR_1) ?_ | refine Eq.trans (gI_k (by omega)) ?_ | refine Eq.trans (gI_a (by omega)) ?_ | refine Eq.trans (zu0_ne1 (by omega)) ?_ | refine Eq.trans (gi_1 (by omega)) ?_)) <;> first | exact g0_hit1 | exact gI_hit | rfl
  · rw [iR_c (show zlay o = (0, 9) from (hz 0 (by decide))) (by decide)]
    match j with
    | 0 => (repeat (first | refine Eq.trans (gI_2) ?_ | refine Eq.trans (gR_k (by omega)) ?_ | refine Eq.trans (gR_a (by omega)) ?_ | refine Eq.trans (zu0_ne2 (by omega)) ?_ | refine Eq.trans (gi_2 (by omega)) ?_)) <;> first | exact g0_hit2 | exact gR_hit | rfl
    | 1 => (repeat (first | refine Eq.trans (gI_2) ?_ | refine Eq.trans (gR_k (by omega)) ?_ | refine Eq.trans (gR_a (by omega)) ?_ | refine Eq.trans (zu0_ne2 (by omega)) ?_ | refine Eq.trans (gi_2 (by omega)) ?_)) <;> first | exact g0_hit2 | exact gR_hit | rfl
    | 2 => (repeat (first | refine Eq.trans (gI_2) ?_ | refine Eq.trans (gR_k (by omega)) ?_ | refine Eq.trans (gR_a (by omega)) ?_ | refine Eq.trans (zu0_ne2 (by omega)) ?_ | refine Eq.trans (gi_2 (by omega)) ?_)) <;> first | exact g0_hit2 | exact gR_hit | rfl
    | 3 => (repeat (first | refine Eq.trans (gI_2) ?_ | refine Eq.trans (gR_k (by omega)) ?_ | refine Eq.trans (gR_a (by omega)) ?_ | refine Eq.trans (zu0_ne2 (by omega)) ?_ | refine Eq.trans (gi_2 (by omega)) ?_)) <;> first | exact g0_hit2 | exact gR_hit | rfl
    | 4 => (repeat (first | refine Eq.trans (gI_2) ?_ | refine Eq.trans (gR_k (by omega)) ?_ | refine Eq.trans (gR_a (by omega)) ?_ | refine Eq.trans (zu0_ne2 (by omega)) ?_ | refine Eq.trans (gi_2 (by omega)) ?_)) <;> first | exact g0_hit2 | exact gR_hit | rfl
    | 5 => (repeat (first | refine Eq.trans (gI_2) ?_ | refine Eq.trans (gR_k (by omega)) ?_ | refine Eq.trans (gR_a (by omega)) ?_ | refine Eq.trans (zu0_ne2 (by omega)) ?_ | refine Eq.trans (gi_2 (by omega)) ?_)) <;> first | exact g0_hit2 | exact gR_hit | rfl
    | 6 => (repeat (first | refine Eq.trans (gI_2) ?_ | refine Eq.trans (gR_k (by omega)) ?_ | refine Eq.trans (gR_a (by omega)) ?_ | refine Eq.trans (zu0_ne2 (by omega)) ?_ | refine Eq.trans (gi_2 (by omega)) ?_)) <;> first | exact g0_hit2 | exact gR_hit | rfl
    | 7 => (repeat (first | refine Eq.trans (gI_2) ?_ | refine Eq.trans (gR_k (by omega)) ?_ | refine Eq.trans (gR_a (by omega)) ?_ | refine Eq.trans (zu0_ne2 (by omega)) ?_ | refine Eq.trans (gi_2 (by omega)) ?_)) <;> first | exact g0_hit2 | exact gR_hit | rfl
    | 8 => (repeat (first | refine Eq.trans (gI_2) ?_ | refine Eq.trans (gR_k (by omega)) ?_ | refine Eq.trans (gR_a (by omega)) ?_ | refine Eq.trans (zu0_ne2 (by omega)) ?_ | refine Eq.trans (gi_2 (by omega)) ?_)) <;> first | exact g0_hit2 | exact gR_hit | rfl
    | j + 9 => (repeat (first | refine Eq.trans (gI_2) ?_ | refine Eq.trans (gR_k (by omega)) ?_ | refine Eq.trans (gR_a (by omega)) ?_ | refine Eq.trans (zu0_ne2 (by omega)) ?_ | refine Eq.trans (gi_2 (by omega)) ?_)) <;> first | exact g0_hit2 | exact gR_hit | rfl
set_option maxRecDepth 100000 in
set_option maxHeartbeats 1000000 in
theorem n_X0 (o : Nat) (σ : zS) (ho : o + 4 ≤ 501) (hz : ∀ d, d < 4 → zlay (o + d) = ly_0 d) : zCl 3 zno (o + 1) zno (o + 4) 0 [.inr (0, 9, o)] (zu0 σ o) (fun v σ1 => v = none ∧ σ1 = zini o (o + 4) σ) := by
  refine zmeth (cd := kX0_init) [] 1000 (Nat.le_of_ble_eq_true rfl) rfl okX0_init (by omega) (Nat.le_of_ble_eq_true rfl) ?_
  refine And.intro (by omega) ?_
  refine And.intro (hz 1 (by decide)) (And.intro (by decide) (And.intro (by omega) ?_))
  refine And.intro (by omega) (And.intro rfl ?_)
  refine And.intro (hz 2 (by decide)) (And.intro (by decide) (And.intro (by omega) ?_))
  refine And.intro (by omega) (And.intro rfl ?_)
  refine And.intro (hz 3 (by decide)) (And.intro (by decide) (And.intro (by omega) ?_))
  refine And.intro (by omega) (And.intro rfl ?_)
  exact And.intro rfl (And.intro rfl ⟨rfl, m_X0 o σ hz⟩)
theorem m_X6 (σ : zS) : (zuR (zu0 (zu0 σ 3) 4) 3 0 (4 + 1)) = zini 3 5 σ := by
  refine zrs.done ((((zrs.start (S := (fun a => Nat.beq a 3)) (o := 3) (σ := σ)).spec (by simp) (Nat.le_refl _)).arr (by omega) rfl (Or.inl rfl)).uR (by simp)) (fun a ha => ?_)
  have ea : a = 3 := Nat.eq_of_beq_eq_true ha
  rw [ea]
  refine ⟨by omega, fun j => ⟨?_, ?_⟩⟩
  · rw [iI_z (show zlay 3 = (6, 6) from rfl) (by decide)]
    (repeat (first | refine Eq.trans (gR_1) ?_ | refine Eq.trans (gI_k (by omega)) ?_ | refine Eq.trans (gI_a (by omega)) ?_ | refine Eq.trans (zu0_ne1 (by omega)) ?_ | refine Eq.trans (gi_1 (by omega)) ?_)) <;> first | exact g0_hit1 | exact gI_hit | rfl
  · rw [iR_c (show zlay 3 = (6, 6) from rfl) (by decide)]
    match j with
    | 0 => (repeat (first | refine Eq.trans (gI_2) ?_ | refine Eq.trans (gR_k (by omega)) ?_ | refine Eq.trans (gR_a (by omega)) ?_ | refine Eq.trans (zu0_ne2 (by omega)) ?_ | refine Eq.trans (gi_2 (by omega)) ?_)) <;> first | exact g0_hit2 | exact gR_hit | rfl
    | 1 => (repeat (first | refine Eq.trans (gI_2) ?_ | refine Eq.trans (gR_k (by omega)) ?_ | refine Eq.trans (gR_a (by omega)) ?_ | refine Eq.trans (zu0_ne2 (by omega)) ?_ | refine Eq.trans (gi_2 (by omega)) ?_)) <;> first | exact g0_hit2 | exact gR_hit | rfl
    | 2 => (repeat (first | refine Eq.trans (gI_2) ?_ | refine Eq.trans (gR_k (by omega)) ?_ | refine Eq.trans (gR_a (by omega)) ?_ | refine Eq.trans (zu0_ne2 (by omega)) ?_ | refine Eq.trans (gi_2 (by omega)) ?_)) <;> first | exact g0_hit2 | exact gR_hit | rfl
    | 3 => (repeat (first | refine Eq.trans (gI_2) ?_ | refine Eq.trans (gR_k (by omega)) ?_ | refine Eq.trans (gR_a (by omega)) ?_ | refine Eq.trans (zu0_ne2 (by omega)) ?_ | refine Eq.trans (gi_2 (by omega)) ?_)) <;> first | exact g0_hit2 | exact gR_hit | rfl
    | 4 => (repeat (first | refine Eq.trans (gI_2) ?_ | refine Eq.trans (gR_k (by omega)) ?_ | refine Eq.trans (gR_a (by omega)) ?_ | refine Eq.trans (zu0_ne2 (by omega)) ?_ | refine Eq.trans (gi_2 (by omega)) ?_)) <;> first | exact g0_hit2 | exact gR_hit | rfl
    | 5 => (repeat (first | refine Eq.trans (gI_2) ?_ | refine Eq.trans (gR_k (by omega)) ?_ | refine Eq.trans (gR_a (by omega)) ?_ | refine Eq.trans (zu0_ne2 (by omega)) ?_ | refine Eq.trans (gi_2 (by omega)) ?_)) <;> first | exact g0_hit2 | exact gR_hit | rfl
    | j + 6 => (repeat (first | refine Eq.trans (gI_2) ?_ | refine Eq.trans (gR_k (by omega)) ?_ | refine Eq.trans (gR_a (by omega)) ?_ | refine Eq.trans (zu0_ne2 (by omega)) ?_ | refine Eq.trans (gi_2 (by omega)) ?_)) <;> first | exact g0_hit2 | exact gR_hit | rfl
set_option maxRecDepth 100000 in
set_option maxHeartbeats 1000000 in
theorem n_X6 (σ : zS) : zCl 3 zno 4 zno 5 90 [.inr (6, 6, 3)] (zu0 σ 3) (fun v σ1 => v = none ∧ σ1 = zini 3 5 σ) := by
  refine zmeth (cd := kX6_init) [] 1000 (Nat.le_of_ble_eq_true rfl) rfl okX6_init (by omega) (Nat.le_of_ble_eq_true rfl) ?_
  refine And.intro rfl (And.intro (by decide) (And.intro (by omega) ?_))
  refine And.intro (by omega) ?_
  exact And.intro rfl (And.intro rfl ⟨rfl, m_X6 σ⟩)
theorem m_X5 (o : Nat) (σ : zS) (hz : ∀ d, d < 5 → zlay (o + d) = ly_5 d) : (zuR (zini (o + 1) (o + 5) (zu0 σ o)) o 0 ((o + 1) + 1)) = zini o (o + 5) σ := by
  refine zrs.done ((((zrs.start (S := (fun a => Nat.beq a o)) (o := o) (σ := σ)).spec (by simp) (Nat.le_refl _)).ini (by omega) (by omega)).uR (by simp)) (fun a ha => ?_)
  have ea : a = o := Nat.eq_of_beq_eq_true ha
  rw [ea]
  refine ⟨by omega, fun j => ⟨?_, ?_⟩⟩
  · rw [iI_z (show zlay o = (5, 12) from (hz 0 (by decide))) (by decide)]
    (repeat (first | refine Eq.trans (gR_1) ?_ | refine Eq.trans (gI_k (by omega)) ?_ | refine Eq.trans (gI_a (by omega)) ?_ | refine Eq.trans (zu0_ne1 (by omega)) ?_ | refine Eq.trans (gi_1 (by omega)) ?_)) <;> first | exact g0_hit1 | exact gI_hit | rfl
  · rw [iR_c (show zlay o = (5, 12) from (hz 0 (by decide))) (by decide)]
    match j with
    | 0 => (repeat (first | refine Eq.trans (gI_2) ?_ | refine Eq.trans (gR_k (by omega)) ?_ | refine Eq.trans (gR_a (by omega)) ?_ | refine Eq.trans (zu0_ne2 (by omega)) ?_ | refine Eq.trans (gi_2 (by omega)) ?_)) <;> first | exact g0_hit2 | exact gR_hit | rfl
    | 1 => (repeat (first | refine Eq.trans (gI_2) ?_ | refine Eq.trans (gR_k (by omega)) ?_ | refine Eq.trans (gR_a (by omega)) ?_ | refine Eq.trans (zu0_ne2 (by omega)) ?_ | refine Eq.trans (gi_2 (by omega)) ?_)) <;> first | exact g0_hit2 | exact gR_hit | rfl
    | 2 => (repeat (first | refine Eq.trans (gI_2) ?_ | refine Eq.trans (gR_k (by omega)) ?_ | refine Eq.trans (gR_a (by omega)) ?_ | refine Eq.trans (zu0_ne2 (by omega)) ?_ | refine Eq.trans (gi_2 (by omega)) ?_)) <;> first | exact g0_hit2 | exact gR_hit | rfl
    | 3 => (repeat (first | refine Eq.trans (gI_2) ?_ | refine Eq.trans (gR_k (by omega)) ?_ | refine Eq.trans (gR_a (by omega)) ?_ | refine Eq.trans (zu0_ne2 (by omega)) ?_ | refine Eq.trans (gi_2 (by omega)) ?_)) <;> first | exact g0_hit2 | exact gR_hit | rfl
    | 4 => (repeat (first | refine Eq.trans (gI_2) ?_ | refine Eq.trans (gR_k (by omega)) ?_ | refine Eq.trans (gR_a (by omega)) ?_ | refine Eq.trans (zu0_ne2 (by omega)) ?_ | refine Eq.trans (gi_2 (by omega)) ?_)) <;> first | exact g0_hit2 | exact gR_hit | rfl
    | 5 => (repeat (first | refine Eq.trans (gI_2) ?_ | refine Eq.trans (gR_k (by omega)) ?_ | refine Eq.trans (gR_a (by omega)) ?_ | refine Eq.trans (zu0_ne2 (by omega)) ?_ | refine Eq.trans (gi_2 (by omega)) ?_)) <;> first | exact g0_hit2 | exact gR_hit | rfl
    | 6 => (repeat (first | refine Eq.trans (gI_2) ?_ | refine Eq.trans (gR_k (by omega)) ?_ | refine Eq.trans (gR_a (by omega)) ?_ | refine Eq.trans (zu0_ne2 (by omega)) ?_ | refine Eq.trans (gi_2 (by omega)) ?_)) <;> first | exact g0_hit2 | exact gR_hit | rfl
    | 7 => (repeat (first | refine Eq.trans (gI_2) ?_ | refine Eq.trans (gR_k (by omega)) ?_ | refine Eq.trans (gR_a (by omega)) ?_ | refine Eq.trans (zu0_ne2 (by omega)) ?_ | refine Eq.trans (gi_2 (by omega)) ?_)) <;> first | exact g0_hit2 | exact gR_hit | rfl
    | 8 => (repeat (first | refine Eq.trans (gI_2) ?_ | refine Eq.trans (gR_k (by omega)) ?_ | refine Eq.trans (gR_a (by omega)) ?_ | refine Eq.trans (zu0_ne2 (by omega)) ?_ | refine Eq.trans (gi_2 (by omega)) ?_)) <;> first | exact g0_hit2 | exact gR_hit | rfl
    | 9 => (repeat (first | refine Eq.trans (gI_2) ?_ | refine Eq.trans (gR_k (by omega)) ?_ | refine Eq.trans (gR_a (by omega)) ?_ | refine Eq.trans (zu0_ne2 (by omega)) ?_ | refine Eq.trans (gi_2 (by omega)) ?_)) <;> first | exact g0_hit2 | exact gR_hit | rfl
    | 10 => (repeat (first | refine Eq.trans (gI_2) ?_ | refine Eq.trans (gR_k (by omega)) ?_ | refine Eq.trans (gR_a (by omega)) ?_ | refine Eq.trans (zu0_ne2 (by omega)) ?_ | refine Eq.trans (gi_2 (by omega)) ?_)) <;> first | exact g0_hit2 | exact gR_hit | rfl
    | 11 => (repeat (first | refine Eq.trans (gI_2) ?_ | refine Eq.trans (gR_k (by omega)) ?_ | refine Eq.trans (gR_a (by omega)) ?_ | refine Eq.trans (zu0_ne2 (by omega)) ?_ | refine Eq.trans (gi_2 (by omega)) ?_)) <;> first | exact g0_hit2 | exact gR_hit | rfl
    | j + 12 => (repeat (first | refine Eq.trans (gI_2) ?_ | refine Eq.trans (gR_k (by omega)) ?_ | refine Eq.trans (gR_a (by omega)) ?_ | refine Eq.trans (zu0_ne2 (by omega)) ?_ | refine Eq.trans (gi_2 (by omega)) ?_)) <;> first | exact g0_hit2 | exact gR_hit | rfl
theorem lyS_5_1 (d : Nat) (hd : d < 4) : ly_5 (1 + d) = ly_0 d := by
  unfold ly_5 ly_0
  exact lyS_dec [(5, 12), (0, 9), (20, 240), (20, 60), (20, 1680)] [(0, 9), (20, 240), (20, 60), (20, 1680)] 1 4 rfl d hd
set_option maxRecDepth 100000 in
set_option maxHeartbeats 1000000 in
theorem n_X5 (o : Nat) (σ : zS) (ho : o + 5 ≤ 501) (hz : ∀ d, d < 5 → zlay (o + d) = ly_5 d) : zCl 5 zno (o + 1) zno (o + 5) 83 [.inr (5, 12, o)] (zu0 σ o) (fun v σ1 => v = none ∧ σ1 = zini o (o + 5) σ) := by
  refine zmeth (cd := kX5_init) [] 1000 (Nat.le_of_ble_eq_true rfl) rfl okX5_init (by omega) (Nat.le_of_ble_eq_true rfl) ?_
  refine And.intro (hz 1 (by decide)) (And.intro rfl (And.intro (by omega) ?_))
  refine ⟨zno, (o + 5), by omega, zsl_mono (by omega), zCl.use (n_X0 (o + 1) (zu0 σ o) (by omega) (fun d hd => (congrArg zlay (Nat.add_assoc o 1 d)).trans ((hz (1 + d) (by omega)).trans (lyS_5_1 d hd)))) (by decide) ?_⟩
  rintro _ σz ⟨rfl, hz0⟩
  subst σz
  refine And.intro (by omega) (And.intro rfl ?_)
  exact And.intro rfl (And.intro rfl ⟨rfl, m_X5 o σ hz⟩)
theorem m_X7 (o : Nat) (σ : zS) (hz : ∀ d, d < 6 → zlay (o + d) = ly_7 d) : (zuR (zu0 (zuR (zini (o + 1) (o + 5) (zu0 σ o)) o 0 ((o + 1) + 1)) (o + 5)) o 1 ((o + 5) + 1)) = zini o (o + 6) σ := by
  refine zrs.done ((((((zrs.start (S := (fun a => Nat.beq a o)) (o := o) (σ := σ)).spec (by simp) (Nat.le_refl _)).ini (by omega) (by omega)).uR (by simp)).arr (by omega) (hz 5 (by decide)) (Or.inl rfl)).uR (by simp)) (fun a ha => ?_)
  have ea : a = o := Nat.eq_of_beq_eq_true ha
  rw [ea]
  refine ⟨by omega, fun j => ⟨?_, ?_⟩⟩
  · rw [iI_z (show zlay o = (7, 5) from (hz 0 (by decide))) (by decide)]
    (repeat (first | refine Eq.trans (gR_1) ?_ | refine Eq.trans (gI_k (by omega)) ?_ | refine Eq.trans (gI_a (by omega)) ?_ | refine Eq.trans (zu0_ne1 (by omega)) ?_ | refine Eq.trans (gi_1 (by omega)) ?_)) <;> first | exact g0_hit1 | exact gI_hit | rfl
  · rw [iR_c (show zlay o = (7, 5) from (hz 0 (by decide))) (by decide)]
    match j with
    | 0 => (repeat (first | refine Eq.trans (gI_2) ?_ | refine Eq.trans (gR_k (by omega)) ?_ | refine Eq.trans (gR_a (by omega)) ?_ | refine Eq.trans (zu0_ne2 (by omega)) ?_ | refine Eq.trans (gi_2 (by omega)) ?_)) <;> first | exact g0_hit2 | exact gR_hit | rfl
    | 1 => (repeat (first | refine Eq.trans (gI_2) ?_ | refine Eq.trans (gR_k (by omega)) ?_ | refine Eq.trans (gR_a (by omega)) ?_ | refine Eq.trans (zu0_ne2 (by omega)) ?_ | refine Eq.trans (gi_2 (by omega)) ?_)) <;> first | exact g0_hit2 | exact gR_hit | rfl
    | 2 => (repeat (first | refine Eq.trans (gI_2) ?_ | refine Eq.trans (gR_k (by omega)) ?_ | refine Eq.trans (gR_a (by omega)) ?_ | refine Eq.trans (zu0_ne2 (by omega)) ?_ | refine Eq.trans (gi_2 (by omega)) ?_)) <;> first | exact g0_hit2 | exact gR_hit | rfl
    | 3 => (repeat (first | refine Eq.trans (gI_2) ?_ | refine Eq.trans (gR_k (by omega)) ?_ | refine Eq.trans (gR_a (by omega)) ?_ | refine Eq.trans (zu0_ne2 (by omega)) ?_ | refine Eq.trans (gi_2 (by omega)) ?_)) <;> first | exact g0_hit2 | exact gR_hit | rfl
    | 4 => (repeat (first | refine Eq.trans (gI_2) ?_ | refine Eq.trans (gR_k (by omega)) ?_ | refine Eq.trans (gR_a (by omega)) ?_ | refine Eq.trans (zu0_ne2 (by omega)) ?_ | refine Eq.trans (gi_2 (by omega)) ?_)) <;> first | exact g0_hit2 | exact gR_hit | rfl
    | j + 5 => (repeat (first | refine Eq.trans (gI_2) ?_ | refine Eq.trans (gR_k (by omega)) ?_ | refine Eq.trans (gR_a (by omega)) ?_ | refine Eq.trans (zu0_ne2 (by omega)) ?_ | refine Eq.trans (gi_2 (by omega)) ?_)) <;> first | exact g0_hit2 | exact gR_hit | rfl
theorem lyS_7_1 (d : Nat) (hd : d < 4) : ly_7 (1 + d) = ly_0 d := by
  unfold ly_7 ly_0
  exact lyS_dec [(7, 5), (0, 9), (20, 240), (20, 60), (20, 1680), (20, 3000)] [(0, 9), (20, 240), (20, 60), (20, 1680)] 1 4 rfl d hd
set_option maxRecDepth 100000 in
set_option maxHeartbeats 1000000 in
theorem n_X7 (o : Nat) (σ : zS) (ho : o + 6 ≤ 501) (hz : ∀ d, d < 6 → zlay (o + d) = ly_7 d) : zCl 5 zno (o + 1) zno (o + 6) 102 [.inr (7, 5, o)] (zu0 σ o) (fun v σ1 => v = none ∧ σ1 = zini o (o + 6) σ) := by
  refine zmeth (cd := kX7_init) [] 1000 (Nat.le_of_ble_eq_true rfl) rfl okX7_init (by omega) (Nat.le_of_ble_eq_true rfl) ?_
  refine And.intro (hz 1 (by decide)) (And.intro rfl (And.intro (by omega) ?_))
  refine ⟨zno, (o + 5), by omega, zsl_mono (by omega), zCl.use (n_X0 (o + 1) (zu0 σ o) (by omega) (fun d hd => (congrArg zlay (Nat.add_assoc o 1 d)).trans ((hz (1 + d) (by omega)).trans (lyS_7_1 d hd)))) (by decide) ?_⟩
  rintro _ σz ⟨rfl, hz0⟩
  subst σz
  refine And.intro (by omega) (And.intro rfl ?_)
  refine And.intro (hz 5 (by decide)) (And.intro (by decide) (And.intro (by omega) ?_))
  refine And.intro (by omega) (And.intro rfl ?_)
  exact And.intro rfl (And.intro rfl ⟨rfl, m_X7 o σ hz⟩)
set_option maxRecDepth 100000 in
set_option maxHeartbeats 1000000 in
theorem n_X2_clear {nx : Nat} (o : Nat) (σ : zS) (ho : o + 7 ≤ 501) (hz : ∀ d, d < 7 → zlay (o + d) = ly_2 d) (h : σ.2 o 13 = o + 4 + 1) : zCl 2 zno nx zno nx 23 [.inr (2, 16, o)] σ (fun v σ1 => v = none ∧ σ1 = s_X2_clear o 20 σ) := by
  refine zmeth (cd := kX2_clear) [] 1000 (Nat.le_of_ble_eq_true rfl) rfl okX2_clear (Nat.le_refl _) (Nat.le_of_ble_eq_true rfl) ?_
  refine And.intro (fun z => ?_) (fun q hq => ?_)
  · have z1 := h.symm.trans z
    omega
  obtain rfl : q = o + 4 := by
    have z1 := h.symm.trans hq
    omega
  clear hq
  rw [show zlay (o + 4) = (20, 16) from hz 4 (by decide)]
  refine zCl.use (c_J7_fill_53178 16 (o + 4) 0 20 (u_X2_clear_10 o 20 σ) (fill_p (by decide) (by decide))) (Nat.le_of_ble_eq_true rfl) ?_
  rintro _ σz ⟨rfl, hz0⟩
  subst σz
  exact And.intro rfl (And.intro rfl ⟨rfl, rfl⟩)
theorem m_X2 (o : Nat) (σ : zS) (hz : ∀ d, d < 7 → zlay (o + d) = ly_2 d) : (zuI (zuI (zuI (zuI (zuI (zuI (zuI (zuI (zuI (zuI (zuR (zu0 (zuR (zu0 (zuR (zu0 (zuR (zu0 (zuR (zu0 (zuR (zu0 (zu0 σ o) (o + 1)) o 10 ((o + 1) + 1)) (o + 2)) o 11 ((o + 2) + 1)) (o + 3)) o 12 ((o + 3) + 1)) (o + 4)) o 13 ((o + 4) + 1)) (o + 5)) o 14 ((o + 5) + 1)) (o + 6)) o 15 ((o + 6) + 1)) o 0 6) o 1 0) o 2 0) o 3 8) o 4 10) o 5 1) o 6 0) o 7 0) o 8 0) o 9 0) = zini o (o + 7) σ := by
  refine zrs.done ((((((((((((((((((((((((zrs.start (S := (fun a => Nat.beq a o)) (o := o) (σ := σ)).spec (by simp) (Nat.le_refl _)).arr (by omega) (hz 1 (by decide)) (Or.inl rfl)).uR (by simp)).arr (by omega) (hz 2 (by decide)) (Or.inl rfl)).uR (by simp)).arr (by omega) (hz 3 (by decide)) (Or.inl rfl)).uR (by simp)).arr (by omega) (hz 4 (by decide)) (Or.inl rfl)).uR (by simp)).arr (by omega) (hz 5 (by decide)) (Or.inl rfl)).uR (by simp)).arr (by omega) (hz 6 (by decide)) (Or.inl rfl)).uR (by simp)).uI (by simp)).uI (by simp)).uI (by simp)).uI (by simp)).uI (by simp)).uI (by simp)).uI (by simp)).uI (by simp)).uI (by simp)).uI (by simp)) (fun a ha => ?_)
  have ea : a = o := Nat.eq_of_beq_eq_true ha
  rw [ea]
  refine ⟨by omega, fun j => ⟨?_, ?_⟩⟩
  · unfold iI
    rw [show zlay o = (2, 16) from (hz 0 (by decide))]
    match j with
    | 0 => (repeat (first | refine Eq.trans (gR_1) ?_ | refine Eq.trans (gI_k (by omega)) ?_ | refine Eq.trans (gI_a (by omega)) ?_ | refine Eq.trans (zu0_ne1 (by omega)) ?_ | refine Eq.trans (gi_1 (by omega)) ?_)) <;> first | exact g0_hit1 | exact gI_hit | rfl
    | 1 => (repeat (first | refine Eq.trans (gR_1) ?_ | refine Eq.trans (gI_k (by omega)) ?_ | refine Eq.trans (gI_a (by omega)) ?_ | refine Eq.trans (zu0_ne1 (by omega)) ?_ | refine Eq.trans (gi_1 (by omega)) ?_)) <;> first | exact g0_hit1 | exact gI_hit | rfl
    | 2 => (repeat (first | refine Eq.trans (gR_1) ?_ | refine Eq.trans (gI_k (by omega)) ?_ | refine Eq.trans (gI_a (by omega)) ?_ | refine Eq.trans (zu0_ne1 (by omega)) ?_ | refine Eq.trans (gi_1 (by omega)) ?_)) <;> first | exact g0_hit1 | exact gI_hit | rfl
    | 3 => (repeat (first | refine Eq.trans (gR_1) ?_ | refine Eq.trans (gI_k (by omega)) ?_ | refine Eq.trans (gI_a (by omega)) ?_ | refine Eq.trans (zu0_ne1 (by omega)) ?_ | refine Eq.trans (gi_1 (by omega)) ?_)) <;> first | exact g0_hit1 | exact gI_hit | rfl
    | 4 => (repeat (first | refine Eq.trans (gR_1) ?_ | refine Eq.trans (gI_k (by omega)) ?_ | refine Eq.trans (gI_a (by omega)) ?_ | refine Eq.trans (zu0_ne1 (by omega)) ?_ | refine Eq.trans (gi_1 (by omega)) ?_)) <;> first | exact g0_hit1 | exact gI_hit | rfl
    | 5 => (repeat (first | refine Eq.trans (gR_1) ?_ | refine Eq.trans (gI_k (by omega)) ?_ | refine Eq.trans (gI_a (by omega)) ?_ | refine Eq.trans (zu0_ne1 (by omega)) ?_ | refine Eq.trans (gi_1 (by omega)) ?_)) <;> first | exact g0_hit1 | exact gI_hit | rfl
    | 6 => (repeat (first | refine Eq.trans (gR_1) ?_ | refine Eq.trans (gI_k (by omega)) ?_ | refine Eq.trans (gI_a (by omega)) ?_ | refine Eq.trans (zu0_ne1 (by omega)) ?_ | refine Eq.trans (gi_1 (by omega)) ?_)) <;> first | exact g0_hit1 | exact gI_hit | rfl
    | 7 => (repeat (first | refine Eq.trans (gR_1) ?_ | refine Eq.trans (gI_k (by omega)) ?_ | refine Eq.trans (gI_a (by omega)) ?_ | refine Eq.trans (zu0_ne1 (by omega)) ?_ | refine Eq.trans (gi_1 (by omega)) ?_)) <;> first | exact g0_hit1 | exact gI_hit | rfl
    | 8 => (repeat (first | refine Eq.trans (gR_1) ?_ | refine Eq.trans (gI_k (by omega)) ?_ | refine Eq.trans (gI_a (by omega)) ?_ | refine Eq.trans (zu0_ne1 (by omega)) ?_ | refine Eq.trans (gi_1 (by omega)) ?_)) <;> first | exact g0_hit1 | exact gI_hit | rfl
    | 9 => (repeat (first | refine Eq.trans (gR_1) ?_ | refine Eq.trans (gI_k (by omega)) ?_ | refine Eq.trans (gI_a (by omega)) ?_ | refine Eq.trans (zu0_ne1 (by omega)) ?_ | refine Eq.trans (gi_1 (by omega)) ?_)) <;> first | exact g0_hit1 | exact gI_hit | rfl
    | 10 => (repeat (first | refine Eq.trans (gR_1) ?_ | refine Eq.trans (gI_k (by omega)) ?_ | refine Eq.trans (gI_a (by omega)) ?_ | refine Eq.trans (zu0_ne1 (by omega)) ?_ | refine Eq.trans (gi_1 (by omega)) ?_)) <;> first | exact g0_hit1 | exact gI_hit | rfl
    | 11 => (repeat (first | refine Eq.trans (gR_1) ?_ | refine Eq.trans (gI_k (by omega)) ?_ | refine Eq.trans (gI_a (by omega)) ?_ | refine Eq.trans (zu0_ne1 (by omega)) ?_ | refine Eq.trans (gi_1 (by omega)) ?_)) <;> first | exact g0_hit1 | exact gI_hit | rfl
    | 12 => (repeat (first | refine Eq.trans (gR_1) ?_ | refine Eq.trans (gI_k (by omega)) ?_ | refine Eq.trans (gI_a (by omega)) ?_ | refine Eq.trans (zu0_ne1 (by omega)) ?_ | refine Eq.trans (gi_1 (by omega)) ?_)) <;> first | exact g0_hit1 | exact gI_hit | rfl
    | 13 => (repeat (first | refine Eq.trans (gR_1) ?_ | refine Eq.trans (gI_k (by omega)) ?_ | refine Eq.trans (gI_a (by omega)) ?_ | refine Eq.trans (zu0_ne1 (by omega)) ?_ | refine Eq.trans (gi_1 (by omega)) ?_)) <;> first | exact g0_hit1 | exact gI_hit | rfl
    | 14 => (repeat (first | refine Eq.trans (gR_1) ?_ | refine Eq.trans (gI_k (by omega)) ?_ | refine Eq.trans (gI_a (by omega)) ?_ | refine Eq.trans (zu0_ne1 (by omega)) ?_ | refine Eq.trans (gi_1 (by omega)) ?_)) <;> first | exact g0_hit1 | exact gI_hit | rfl
    | 15 => (repeat (first | refine Eq.trans (gR_1) ?_ | refine Eq.trans (gI_k (by omega)) ?_ | refine Eq.trans (gI_a (by omega)) ?_ | refine Eq.trans (zu0_ne1 (by omega)) ?_ | refine Eq.trans (gi_1 (by omega)) ?_)) <;> first | exact g0_hit1 | exact gI_hit | rfl
    | j + 16 => (repeat (first | refine Eq.trans (gR_1) ?_ | refine Eq.trans (gI_k (by omega)) ?_ | refine Eq.trans (gI_a (by omega)) ?_ | refine Eq.trans (zu0_ne1 (by omega)) ?_ | refine Eq.trans (gi_1 (by omega)) ?_)) <;> first | exact g0_hit1 | exact gI_hit | rfl
  · rw [iR_c (show zlay o = (2, 16) from (hz 0 (by decide))) (by decide)]
    match j with
    | 0 => (repeat (first | refine Eq.trans (gI_2) ?_ | refine Eq.trans (gR_k (by omega)) ?_ | refine Eq.trans (gR_a (by omega)) ?_ | refine Eq.trans (zu0_ne2 (by omega)) ?_ | refine Eq.trans (gi_2 (by omega)) ?_)) <;> first | exact g0_hit2 | exact gR_hit | rfl
    | 1 => (repeat (first | refine Eq.trans (gI_2) ?_ | refine Eq.trans (gR_k (by omega)) ?_ | refine Eq.trans (gR_a (by omega)) ?_ | refine Eq.trans (zu0_ne2 (by omega)) ?_ | refine Eq.trans (gi_2 (by omega)) ?_)) <;> first | exact g0_hit2 | exact gR_hit | rfl
    | 2 => (repeat (first | refine Eq.trans (gI_2) ?_ | refine Eq.trans (gR_k (by omega)) ?_ | refine Eq.trans (gR_a (by omega)) ?_ | refine Eq.trans (zu0_ne2 (by omega)) ?_ | refine Eq.trans (gi_2 (by omega)) ?_)) <;> first | exact g0_hit2 | exact gR_hit | rfl
    | 3 => (repeat (first | refine Eq.trans (gI_2) ?_ | refine Eq.trans (gR_k (by omega)) ?_ | refine Eq.trans (gR_a (by omega)) ?_ | refine Eq.trans (zu0_ne2 (by omega)) ?_ | refine Eq.trans (gi_2 (by omega)) ?_)) <;> first | exact g0_hit2 | exact gR_hit | rfl
    | 4 => (repeat (first | refine Eq.trans (gI_2) ?_ | refine Eq.trans (gR_k (by omega)) ?_ | refine Eq.trans (gR_a (by omega)) ?_ | refine Eq.trans (zu0_ne2 (by omega)) ?_ | refine Eq.trans (gi_2 (by omega)) ?_)) <;> first | exact g0_hit2 | exact gR_hit | rfl
    | 5 => (repeat (first | refine Eq.trans (gI_2) ?_ | refine Eq.trans (gR_k (by omega)) ?_ | refine Eq.trans (gR_a (by omega)) ?_ | refine Eq.trans (zu0_ne2 (by omega)) ?_ | refine Eq.trans (gi_2 (by omega)) ?_)) <;> first | exact g0_hit2 | exact gR_hit | rfl
    | 6 => (repeat (first | refine Eq.trans (gI_2) ?_ | refine Eq.trans (gR_k (by omega)) ?_ | refine Eq.trans (gR_a (by omega)) ?_ | refine Eq.trans (zu0_ne2 (by omega)) ?_ | refine Eq.trans (gi_2 (by omega)) ?_)) <;> first | exact g0_hit2 | exact gR_hit | rfl
    | 7 => (repeat (first | refine Eq.trans (gI_2) ?_ | refine Eq.trans (gR_k (by omega)) ?_ | refine Eq.trans (gR_a (by omega)) ?_ | refine Eq.trans (zu0_ne2 (by omega)) ?_ | refine Eq.trans (gi_2 (by omega)) ?_)) <;> first | exact g0_hit2 | exact gR_hit | rfl
    | 8 => (repeat (first | refine Eq.trans (gI_2) ?_ | refine Eq.trans (gR_k (by omega)) ?_ | refine Eq.trans (gR_a (by omega)) ?_ | refine Eq.trans (zu0_ne2 (by omega)) ?_ | refine Eq.trans (gi_2 (by omega)) ?_)) <;> first | exact g0_hit2 | exact gR_hit | rfl
    | 9 => (repeat (first | refine Eq.trans (gI_2) ?_ | refine Eq.trans (gR_k (by omega)) ?_ | refine Eq.trans (gR_a (by omega)) ?_ | refine Eq.trans (zu0_ne2 (by omega)) ?_ | refine Eq.trans (gi_2 (by omega)) ?_)) <;> first | exact g0_hit2 | exact gR_hit | rfl
    | 10 => (repeat (first | refine Eq.trans (gI_2) ?_ | refine Eq.trans (gR_k (by omega)) ?_ | refine Eq.trans (gR_a (by omega)) ?_ | refine Eq.trans (zu0_ne2 (by omega)) ?_ | refine Eq.trans (gi_2 (by omega)) ?_)) <;> first | exact g0_hit2 | exact gR_hit | rfl
    | 11 => (repeat (first | refine Eq.trans (gI_2) ?_ | refine Eq.trans (gR_k (by omega)) ?_ | refine Eq.trans (gR_a (by omega)) ?_ | refine Eq.trans (zu0_ne2 (by omega)) ?_ | refine Eq.trans (gi_2 (by omega)) ?_)) <;> first | exact g0_hit2 | exact gR_hit | rfl
    | 12 => (repeat (first | refine Eq.trans (gI_2) ?_ | refine Eq.trans (gR_k (by omega)) ?_ | refine Eq.trans (gR_a (by omega)) ?_ | refine Eq.trans (zu0_ne2 (by omega)) ?_ | refine Eq.trans (gi_2 (by omega)) ?_)) <;> first | exact g0_hit2 | exact gR_hit | rfl
    | 13 => (repeat (first | refine Eq.trans (gI_2) ?_ | refine Eq.trans (gR_k (by omega)) ?_ | refine Eq.trans (gR_a (by omega)) ?_ | refine Eq.trans (zu0_ne2 (by omega)) ?_ | refine Eq.trans (gi_2 (by omega)) ?_)) <;> first | exact g0_hit2 | exact gR_hit | rfl
    | 14 => (repeat (first | refine Eq.trans (gI_2) ?_ | refine Eq.trans (gR_k (by omega)) ?_ | refine Eq.trans (gR_a (by omega)) ?_ | refine Eq.trans (zu0_ne2 (by omega)) ?_ | refine Eq.trans (gi_2 (by omega)) ?_)) <;> first | exact g0_hit2 | exact gR_hit | rfl
    | 15 => (repeat (first | refine Eq.trans (gI_2) ?_ | refine Eq.trans (gR_k (by omega)) ?_ | refine Eq.trans (gR_a (by omega)) ?_ | refine Eq.trans (zu0_ne2 (by omega)) ?_ | refine Eq.trans (gi_2 (by omega)) ?_)) <;> first | exact g0_hit2 | exact gR_hit | rfl
    | j + 16 => (repeat (first | refine Eq.trans (gI_2) ?_ | refine Eq.trans (gR_k (by omega)) ?_ | refine Eq.trans (gR_a (by omega)) ?_ | refine Eq.trans (zu0_ne2 (by omega)) ?_ | refine Eq.trans (gi_2 (by omega)) ?_)) <;> first | exact g0_hit2 | exact gR_hit | rfl
set_option maxRecDepth 100000 in
set_option maxHeartbeats 1000000 in
theorem n_X2 (o : Nat) (σ : zS) (ho : o + 7 ≤ 501) (hz : ∀ d, d < 7 → zlay (o + d) = ly_2 d) : zCl 5 zno (o + 1) zno (o + 7) 22 [.inr (2, 16, o)] (zu0 σ o) (fun v σ1 => v = none ∧ σ1 = zini o (o + 7) σ) := by
  refine zmeth (cd := kX2_init) [] 1000 (Nat.le_of_ble_eq_true rfl) rfl okX2_init (by omega) (Nat.le_of_ble_eq_true rfl) ?_
  refine And.intro (hz 1 (by decide)) (And.intro (by decide) (And.intro (by omega) ?_))
  refine And.intro (by omega) (And.intro rfl ?_)
  refine And.intro (hz 2 (by decide)) (And.intro (by decide) (And.intro (by omega) ?_))
  refine And.intro (by omega) (And.intro rfl ?_)
  refine And.intro (hz 3 (by decide)) (And.intro (by decide) (And.intro (by omega) ?_))
  refine And.intro (by omega) (And.intro rfl ?_)
  refine And.intro (hz 4 (by decide)) (And.intro (by decide) (And.intro (by omega) ?_))
  refine And.intro (by omega) (And.intro rfl ?_)
  refine And.intro (hz 5 (by decide)) (And.intro (by decide) (And.intro (by omega) ?_))
  refine And.intro (by omega) (And.intro rfl ?_)
  refine And.intro (hz 6 (by decide)) (And.intro (by decide) (And.intro (by omega) ?_))
  refine And.intro (by omega) (And.intro rfl ?_)
  refine zCl.use (n_X2_clear o (zuR (zu0 (zuR (zu0 (zuR (zu0 (zuR (zu0 (zuR (zu0 (zuR (zu0 (zu0 σ o) (o + 1)) o 10 ((o + 1) + 1)) (o + 2)) o 11 ((o + 2) + 1)) (o + 3)) o 12 ((o + 3) + 1)) (o + 4)) o 13 ((o + 4) + 1)) (o + 5)) o 14 ((o + 5) + 1)) (o + 6)) o 15 ((o + 6) + 1)) (by omega) hz ?_) (by decide) ?_
  · (repeat (first | refine Eq.trans (gI_2) ?_ | refine Eq.trans (gR_k (by omega)) ?_ | refine Eq.trans (gR_a (by omega)) ?_ | refine Eq.trans (zu0_ne2 (by omega)) ?_ | refine Eq.trans (gi_2 (by omega)) ?_)) <;> first | exact g0_hit2 | exact gR_hit | rfl
  rintro _ σz ⟨rfl, hz0⟩
  subst σz
  have z2 : s_X2_clear o 20 (zuR (zu0 (zuR (zu0 (zuR (zu0 (zuR (zu0 (zuR (zu0 (zuR (zu0 (zu0 σ o) (o + 1)) o 10 ((o + 1) + 1)) (o + 2)) o 11 ((o + 2) + 1)) (o + 3)) o 12 ((o + 3) + 1)) (o + 4)) o 13 ((o + 4) + 1)) (o + 5)) o 14 ((o + 5) + 1)) (o + 6)) o 15 ((o + 6) + 1)) = (u_X2_clear_10 o 20 (zuR (zu0 (zuR (zu0 (zuR (zu0 (zuR (zu0 (zuR (zu0 (zuR (zu0 (zu0 σ o) (o + 1)) o 10 ((o + 1) + 1)) (o + 2)) o 11 ((o + 2) + 1)) (o + 3)) o 12 ((o + 3) + 1)) (o + 4)) o 13 ((o + 4) + 1)) (o + 5)) o 14 ((o + 5) + 1)) (o + 6)) o 15 ((o + 6) + 1))) := by
    refine fill_same (by decide) (by decide) (fun j => ?_)
    show ((zuI (zuI (zuI (zuI (zuI (zuI (zuI (zuI (zuI (zuI (zuR (zu0 (zuR (zu0 (zuR (zu0 (zuR (zu0 (zuR (zu0 (zuR (zu0 (zu0 σ o) (o + 1)) o 10 ((o + 1) + 1)) (o + 2)) o 11 ((o + 2) + 1)) (o + 3)) o 12 ((o + 3) + 1)) (o + 4)) o 13 ((o + 4) + 1)) (o + 5)) o 14 ((o + 5) + 1)) (o + 6)) o 15 ((o + 6) + 1)) o 0 6) o 1 0) o 2 0) o 3 8) o 4 10) o 5 1) o 6 0) o 7 0) o 8 0) o 9 0)).1 (o + 4) j = 0
    (repeat (first | refine Eq.trans (gR_1) ?_ | refine Eq.trans (gI_k (by omega)) ?_ | refine Eq.trans (gI_a (by omega)) ?_ | refine Eq.trans (zu0_ne1 (by omega)) ?_ | refine Eq.trans (gi_1 (by omega)) ?_)) <;> first | exact g0_hit1 | exact gI_hit | rfl
  rw [z2]
  exact And.intro rfl (And.intro rfl ⟨rfl, m_X2 o σ hz⟩)
theorem m_X4 (o : Nat) (σ : zS) (hz : ∀ d, d < 25 → zlay (o + d) = ly_4 d) : (zuR (zini (o + 20) (o + 25) (zuR (zini (o + 15) (o + 20) (zuR (zini (o + 10) (o + 15) (zuR (zini (o + 5) (o + 10) (zuR (zu0 (zuR (zu0 (zuR (zu0 (zuR (zu0 (zu0 σ o) (o + 1)) o 13 ((o + 1) + 1)) (o + 2)) o 14 ((o + 2) + 1)) (o + 3)) o 15 ((o + 3) + 1)) (o + 4)) o 16 ((o + 4) + 1))) (o + 4) 0 ((o + 5) + 1))) (o + 4) 1 ((o + 10) + 1))) (o + 4) 2 ((o + 15) + 1))) (o + 4) 3 ((o + 20) + 1)) = zini o (o + 25) σ := by
  refine zrs.done ((((((((((((((((((zrs.start (S := (fun a => Nat.beq a o || Nat.beq a (o + 4))) (o := o) (σ := σ)).spec (by simp) (Nat.le_refl _)).arr (by omega) (hz 1 (by decide)) (Or.inl rfl)).uR (by simp)).arr (by omega) (hz 2 (by decide)) (Or.inl rfl)).uR (by simp)).arr (by omega) (hz 3 (by decide)) (Or.inl rfl)).uR (by simp)).spec (by simp) (by omega)).uR (by simp)).ini (by omega) (by omega)).uR (by simp)).ini (by omega) (by omega)).uR (by simp)).ini (by omega) (by omega)).uR (by simp)).ini (by omega) (by omega)).uR (by simp)) (fun a ha => ?_)
  rcases (by simpa using ha : a = o ∨ a = (o + 4)) with ea | ea
  · rw [ea]
    refine ⟨by omega, fun j => ⟨?_, ?_⟩⟩
    · rw [iI_z (show zlay o = (4, 17) from (hz 0 (by decide))) (by decide)]
      (repeat (first | refine Eq.trans (gR_1) ?_ | refine Eq.trans (gI_k (by omega)) ?_ | refine Eq.trans (gI_a (by omega)) ?_ | refine Eq.trans (zu0_ne1 (by omega)) ?_ | refine Eq.trans (gi_1 (by omega)) ?_)) <;> first | exact g0_hit1 | exact gI_hit | rfl
    · rw [iR_c (show zlay o = (4, 17) from (hz 0 (by decide))) (by decide)]
      match j with
      | 0 => (repeat (first | refine Eq.trans (gI_2) ?_ | refine Eq.trans (gR_k (by omega)) ?_ | refine Eq.trans (gR_a (by omega)) ?_ | refine Eq.trans (zu0_ne2 (by omega)) ?_ | refine Eq.trans (gi_2 (by omega)) ?_)) <;> first | exact g0_hit2 | exact gR_hit | rfl
      | 1 => (repeat (first | refine Eq.trans (gI_2) ?_ | refine Eq.trans (gR_k (by omega)) ?_ | refine Eq.trans (gR_a (by omega)) ?_ | refine Eq.trans (zu0_ne2 (by omega)) ?_ | refine Eq.trans (gi_2 (by omega)) ?_)) <;> first | exact g0_hit2 | exact gR_hit | rfl
      | 2 => (repeat (first | refine Eq.trans (gI_2) ?_ | refine Eq.trans (gR_k (by omega)) ?_ | refine Eq.trans (gR_a (by omega)) ?_ | refine Eq.trans (zu0_ne2 (by omega)) ?_ | refine Eq.trans (gi_2 (by omega)) ?_)) <;> first | exact g0_hit2 | exact gR_hit | rfl
      | 3 => (repeat (first | refine Eq.trans (gI_2) ?_ | refine Eq.trans (gR_k (by omega)) ?_ | refine Eq.trans (gR_a (by omega)) ?_ | refine Eq.trans (zu0_ne2 (by omega)) ?_ | refine Eq.trans (gi_2 (by omega)) ?_)) <;> first | exact g0_hit2 | exact gR_hit | rfl
      | 4 => (repeat (first | refine Eq.trans (gI_2) ?_ | refine Eq.trans (gR_k (by omega)) ?_ | refine Eq.trans (gR_a (by omega)) ?_ | refine Eq.trans (zu0_ne2 (by omega)) ?_ | refine Eq.trans (gi_2 (by omega)) ?_)) <;> first | exact g0_hit2 | exact gR_hit | rfl
      | 5 => (repeat (first | refine Eq.trans (gI_2) ?_ | refine Eq.trans (gR_k (by omega)) ?_ | refine Eq.trans (gR_a (by omega)) ?_ | refine Eq.trans (zu0_ne2 (by omega)) ?_ | refine Eq.trans (gi_2 (by omega)) ?_)) <;> first | exact g0_hit2 | exact gR_hit | rfl
      | 6 => (repeat (first | refine Eq.trans (gI_2) ?_ | refine Eq.trans (gR_k (by omega)) ?_ | refine Eq.trans (gR_a (by omega)) ?_ | refine Eq.trans (zu0_ne2 (by omega)) ?_ | refine Eq.trans (gi_2 (by omega)) ?_)) <;> first | exact g0_hit2 | exact gR_hit | rfl
      | 7 => (repeat (first | refine Eq.trans (gI_2) ?_ | refine Eq.trans (gR_k (by omega)) ?_ | refine Eq.trans (gR_a (by omega)) ?_ | refine Eq.trans (zu0_ne2 (by omega)) ?_ | refine Eq.trans (gi_2 (by omega)) ?_)) <;> first | exact g0_hit2 | exact gR_hit | rfl
      | 8 => (repeat (first | refine Eq.trans (gI_2) ?_ | refine Eq.trans (gR_k (by omega)) ?_ | refine Eq.trans (gR_a (by omega)) ?_ | refine Eq.trans (zu0_ne2 (by omega)) ?_ | refine Eq.trans (gi_2 (by omega)) ?_)) <;> first | exact g0_hit2 | exact gR_hit | rfl
      | 9 => (repeat (first | refine Eq.trans (gI_2) ?_ | refine Eq.trans (gR_k (by omega)) ?_ | refine Eq.trans (gR_a (by omega)) ?_ | refine Eq.trans (zu0_ne2 (by omega)) ?_ | refine Eq.trans (gi_2 (by omega)) ?_)) <;> first | exact g0_hit2 | exact gR_hit | rfl
      | 10 => (repeat (first | refine Eq.trans (gI_2) ?_ | refine Eq.trans (gR_k (by omega)) ?_ | refine Eq.trans (gR_a (by omega)) ?_ | refine Eq.trans (zu0_ne2 (by omega)) ?_ | refine Eq.trans (gi_2 (by omega)) ?_)) <;> first | exact g0_hit2 | exact gR_hit | rfl
      | 11 => (repeat (first | refine Eq.trans (gI_2) ?_ | refine Eq.trans (gR_k (by omega)) ?_ | refine Eq.trans (gR_a (by omega)) ?_ | refine Eq.trans (zu0_ne2 (by omega)) ?_ | refine Eq.trans (gi_2 (by omega)) ?_)) <;> first | exact g0_hit2 | exact gR_hit | rfl
      | 12 => (repeat (first | refine Eq.trans (gI_2) ?_ | refine Eq.trans (gR_k (by omega)) ?_ | refine Eq.trans (gR_a (by omega)) ?_ | refine Eq.trans (zu0_ne2 (by omega)) ?_ | refine Eq.trans (gi_2 (by omega)) ?_)) <;> first | exact g0_hit2 | exact gR_hit | rfl
      | 13 => (repeat (first | refine Eq.trans (gI_2) ?_ | refine Eq.trans (gR_k (by omega)) ?_ | refine Eq.trans (gR_a (by omega)) ?_ | refine Eq.trans (zu0_ne2 (by omega)) ?_ | refine Eq.trans (gi_2 (by omega)) ?_)) <;> first | exact g0_hit2 | exact gR_hit | rfl
      | 14 => (repeat (first | refine Eq.trans (gI_2) ?_ | refine Eq.trans (gR_k (by omega)) ?_ | refine Eq.trans (gR_a (by omega)) ?_ | refine Eq.trans (zu0_ne2 (by omega)) ?_ | refine Eq.trans (gi_2 (by omega)) ?_)) <;> first | exact g0_hit2 | exact gR_hit | rfl
      | 15 => (repeat (first | refine Eq.trans (gI_2) ?_ | refine Eq.trans (gR_k (by omega)) ?_ | refine Eq.trans (gR_a (by omega)) ?_ | refine Eq.trans (zu0_ne2 (by omega)) ?_ | refine Eq.trans (gi_2 (by omega)) ?_)) <;> first | exact g0_hit2 | exact gR_hit | rfl
      | 16 => (repeat (first | refine Eq.trans (gI_2) ?_ | refine Eq.trans (gR_k (by omega)) ?_ | refine Eq.trans (gR_a (by omega)) ?_ | refine Eq.trans (zu0_ne2 (by omega)) ?_ | refine Eq.trans (gi_2 (by omega)) ?_)) <;> first | exact g0_hit2 | exact gR_hit | rfl
      | j + 17 => (repeat (first | refine Eq.trans (gI_2) ?_ | refine Eq.trans (gR_k (by omega)) ?_ | refine Eq.trans (gR_a (by omega)) ?_ | refine Eq.trans (zu0_ne2 (by omega)) ?_ | refine Eq.trans (gi_2 (by omega)) ?_)) <;> first | exact g0_hit2 | exact gR_hit | rfl
  · rw [ea]
    refine ⟨by omega, fun j => ⟨?_, ?_⟩⟩
    · rw [iI_z (show zlay (o + 4) = (24, 4) from (hz 4 (by decide))) (by decide)]
      (repeat (first | refine Eq.trans (gR_1) ?_ | refine Eq.trans (gI_k (by omega)) ?_ | refine Eq.trans (gI_a (by omega)) ?_ | refine Eq.trans (zu0_ne1 (by omega)) ?_ | refine Eq.trans (gi_1 (by omega)) ?_)) <;> first | exact g0_hit1 | exact gI_hit | rfl
    · rw [iR_24 (show zlay (o + 4) = (24, 4) from (hz 4 (by decide)))]
      match j with
      | 0 => (repeat (first | refine Eq.trans (gI_2) ?_ | refine Eq.trans (gR_k (by omega)) ?_ | refine Eq.trans (gR_a (by omega)) ?_ | refine Eq.trans (zu0_ne2 (by omega)) ?_ | refine Eq.trans (gi_2 (by omega)) ?_)) <;> first | exact g0_hit2 | exact gR_hit | rfl
      | 1 => (repeat (first | refine Eq.trans (gI_2) ?_ | refine Eq.trans (gR_k (by omega)) ?_ | refine Eq.trans (gR_a (by omega)) ?_ | refine Eq.trans (zu0_ne2 (by omega)) ?_ | refine Eq.trans (gi_2 (by omega)) ?_)) <;> first | exact g0_hit2 | exact gR_hit | rfl
      | 2 => (repeat (first | refine Eq.trans (gI_2) ?_ | refine Eq.trans (gR_k (by omega)) ?_ | refine Eq.trans (gR_a (by omega)) ?_ | refine Eq.trans (zu0_ne2 (by omega)) ?_ | refine Eq.trans (gi_2 (by omega)) ?_)) <;> first | exact g0_hit2 | exact gR_hit | rfl
      | 3 => (repeat (first | refine Eq.trans (gI_2) ?_ | refine Eq.trans (gR_k (by omega)) ?_ | refine Eq.trans (gR_a (by omega)) ?_ | refine Eq.trans (zu0_ne2 (by omega)) ?_ | refine Eq.trans (gi_2 (by omega)) ?_)) <;> first | exact g0_hit2 | exact gR_hit | rfl
      | j + 4 => rw [if_neg (by omega)]; (repeat (first | refine Eq.trans (gI_2) ?_ | refine Eq.trans (gR_k (by omega)) ?_ | refine Eq.trans (gR_a (by omega)) ?_ | refine Eq.trans (zu0_ne2 (by omega)) ?_ | refine Eq.trans (gi_2 (by omega)) ?_)) <;> first | exact g0_hit2 | exact gR_hit | rfl
theorem lyS_4_5 (d : Nat) (hd : d < 5) : ly_4 (5 + d) = ly_5 d := by
  unfold ly_4 ly_5
  exact lyS_dec [(4, 17), (20, 12), (20, 12), (20, 100), (24, 4), (5, 12), (0, 9), (20, 240), (20, 60), (20, 1680), (5, 12), (0, 9), (20, 240), (20, 60), (20, 1680), (5, 12), (0, 9), (20, 240), (20, 60), (20, 1680), (5, 12), (0, 9), (20, 240), (20, 60), (20, 1680)] [(5, 12), (0, 9), (20, 240), (20, 60), (20, 1680)] 5 5 rfl d hd
theorem lyS_4_10 (d : Nat) (hd : d < 5) : ly_4 (10 + d) = ly_5 d := by
  unfold ly_4 ly_5
  exact lyS_dec [(4, 17), (20, 12), (20, 12), (20, 100), (24, 4), (5, 12), (0, 9), (20, 240), (20, 60), (20, 1680), (5, 12), (0, 9), (20, 240), (20, 60), (20, 1680), (5, 12), (0, 9), (20, 240), (20, 60), (20, 1680), (5, 12), (0, 9), (20, 240), (20, 60), (20, 1680)] [(5, 12), (0, 9), (20, 240), (20, 60), (20, 1680)] 10 5 rfl d hd
theorem lyS_4_15 (d : Nat) (hd : d < 5) : ly_4 (15 + d) = ly_5 d := by
  unfold ly_4 ly_5
  exact lyS_dec [(4, 17), (20, 12), (20, 12), (20, 100), (24, 4), (5, 12), (0, 9), (20, 240), (20, 60), (20, 1680), (5, 12), (0, 9), (20, 240), (20, 60), (20, 1680), (5, 12), (0, 9), (20, 240), (20, 60), (20, 1680), (5, 12), (0, 9), (20, 240), (20, 60), (20, 1680)] [(5, 12), (0, 9), (20, 240), (20, 60), (20, 1680)] 15 5 rfl d hd
theorem lyS_4_20 (d : Nat) (hd : d < 5) : ly_4 (20 + d) = ly_5 d := by
  unfold ly_4 ly_5
  exact lyS_dec [(4, 17), (20, 12), (20, 12), (20, 100), (24, 4), (5, 12), (0, 9), (20, 240), (20, 60), (20, 1680), (5, 12), (0, 9), (20, 240), (20, 60), (20, 1680), (5, 12), (0, 9), (20, 240), (20, 60), (20, 1680), (5, 12), (0, 9), (20, 240), (20, 60), (20, 1680)] [(5, 12), (0, 9), (20, 240), (20, 60), (20, 1680)] 20 5 rfl d hd
set_option maxRecDepth 100000 in
set_option maxHeartbeats 1000000 in
theorem n_X4 (o : Nat) (σ : zS) (ho : o + 25 ≤ 501) (hz : ∀ d, d < 25 → zlay (o + d) = ly_4 d) : zCl 7 zno (o + 1) zno (o + 25) 50 [.inr (4, 17, o)] (zu0 σ o) (fun v σ1 => v = none ∧ σ1 = zini o (o + 25) σ) := by
  refine zmeth (cd := kX4_init) [] 1000 (Nat.le_of_ble_eq_true rfl) rfl okX4_init (by omega) (Nat.le_of_ble_eq_true rfl) ?_
  refine And.intro (hz 1 (by decide)) (And.intro (by decide) (And.intro (by omega) ?_))
  refine And.intro (by omega) (And.intro rfl ?_)
  refine And.intro (hz 2 (by decide)) (And.intro (by decide) (And.intro (by omega) ?_))
  refine And.intro (by omega) (And.intro rfl ?_)
  refine And.intro (hz 3 (by decide)) (And.intro (by decide) (And.intro (by omega) ?_))
  refine And.intro (by omega) (And.intro rfl ?_)
  refine And.intro (hz 4 (by decide)) (And.intro (by decide) (And.intro (by omega) ?_))
  refine And.intro (by omega) (And.intro rfl ?_)
  refine And.intro ?_ (fun q hq => ?_)
  · intro z
    have z1 : (zuR (zu0 (zuR (zu0 (zuR (zu0 (zuR (zu0 (zu0 σ o) (o + 1)) o 13 ((o + 1) + 1)) (o + 2)) o 14 ((o + 2) + 1)) (o + 3)) o 15 ((o + 3) + 1)) (o + 4)) o 16 ((o + 4) + 1)).2 o 16 = (o + 4) + 1 := by
      (repeat (first | refine Eq.trans (gI_2) ?_ | refine Eq.trans (gR_k (by omega)) ?_ | refine Eq.trans (gR_a (by omega)) ?_ | refine Eq.trans (zu0_ne2 (by omega)) ?_ | refine Eq.trans (gi_2 (by omega)) ?_)) <;> first | exact g0_hit2 | exact gR_hit | rfl
    have z2 := z1.symm.trans z
    omega
  have z1 : (zuR (zu0 (zuR (zu0 (zuR (zu0 (zuR (zu0 (zu0 σ o) (o + 1)) o 13 ((o + 1) + 1)) (o + 2)) o 14 ((o + 2) + 1)) (o + 3)) o 15 ((o + 3) + 1)) (o + 4)) o 16 ((o + 4) + 1)).2 o 16 = (o + 4) + 1 := by
    (repeat (first | refine Eq.trans (gI_2) ?_ | refine Eq.trans (gR_k (by omega)) ?_ | refine Eq.trans (gR_a (by omega)) ?_ | refine Eq.trans (zu0_ne2 (by omega)) ?_ | refine Eq.trans (gi_2 (by omega)) ?_)) <;> first | exact g0_hit2 | exact gR_hit | rfl
  obtain rfl : q = (o + 4) := by
    have z2 := hq.symm.trans z1
    omega
  clear hq z1
  rw [show zlay (o + 4) = (24, 4) from (hz 4 (by decide))]
  refine And.intro (fun z => absurd z (by decide)) (fun _ => ?_)
  refine And.intro ?_ (fun q hq => ?_)
  · intro z
    have z1 : (zuR (zu0 (zuR (zu0 (zuR (zu0 (zuR (zu0 (zu0 σ o) (o + 1)) o 13 ((o + 1) + 1)) (o + 2)) o 14 ((o + 2) + 1)) (o + 3)) o 15 ((o + 3) + 1)) (o + 4)) o 16 ((o + 4) + 1)).2 o 16 = (o + 4) + 1 := by
      (repeat (first | refine Eq.trans (gI_2) ?_ | refine Eq.trans (gR_k (by omega)) ?_ | refine Eq.trans (gR_a (by omega)) ?_ | refine Eq.trans (zu0_ne2 (by omega)) ?_ | refine Eq.trans (gi_2 (by omega)) ?_)) <;> first | exact g0_hit2 | exact gR_hit | rfl
    have z2 := z1.symm.trans z
    omega
  have z1 : (zuR (zu0 (zuR (zu0 (zuR (zu0 (zuR (zu0 (zu0 σ o) (o + 1)) o 13 ((o + 1) + 1)) (o + 2)) o 14 ((o + 2) + 1)) (o + 3)) o 15 ((o + 3) + 1)) (o + 4)) o 16 ((o + 4) + 1)).2 o 16 = (o + 4) + 1 := by
    (repeat (first | refine Eq.trans (gI_2) ?_ | refine Eq.trans (gR_k (by omega)) ?_ | refine Eq.trans (gR_a (by omega)) ?_ | refine Eq.trans (zu0_ne2 (by omega)) ?_ | refine Eq.trans (gi_2 (by omega)) ?_)) <;> first | exact g0_hit2 | exact gR_hit | rfl
  obtain rfl : q = (o + 4) := by
    have z2 := hq.symm.trans z1
    omega
  clear hq z1
  rw [show zlay (o + 4) = (24, 4) from (hz 4 (by decide))]
  refine And.intro (hz 5 (by decide)) (And.intro rfl (And.intro (by omega) ?_))
  refine ⟨zno, (o + 10), by omega, zsl_mono (by omega), zCl.use (n_X5 (o + 5) (zuR (zu0 (zuR (zu0 (zuR (zu0 (zuR (zu0 (zu0 σ o) (o + 1)) o 13 ((o + 1) + 1)) (o + 2)) o 14 ((o + 2) + 1)) (o + 3)) o 15 ((o + 3) + 1)) (o + 4)) o 16 ((o + 4) + 1)) (by omega) (fun d hd => (congrArg zlay (Nat.add_assoc o 5 d)).trans ((hz (5 + d) (by omega)).trans (lyS_4_5 d hd)))) (by decide) ?_⟩
  rintro _ σz ⟨rfl, hz0⟩
  subst σz
  refine And.intro (vp_in_iff.mpr (by decide)) ?_
  refine And.intro ?_ (fun q hq => ?_)
  · intro z
    have z1 : (zuR (zini (o + 5) (o + 10) (zuR (zu0 (zuR (zu0 (zuR (zu0 (zuR (zu0 (zu0 σ o) (o + 1)) o 13 ((o + 1) + 1)) (o + 2)) o 14 ((o + 2) + 1)) (o + 3)) o 15 ((o + 3) + 1)) (o + 4)) o 16 ((o + 4) + 1))) (o + 4) 0 ((o + 5) + 1)).2 o 16 = (o + 4) + 1 := by
      (repeat (first | refine Eq.trans (gI_2) ?_ | refine Eq.trans (gR_k (by omega)) ?_ | refine Eq.trans (gR_a (by omega)) ?_ | refine Eq.trans (zu0_ne2 (by omega)) ?_ | refine Eq.trans (gi_2 (by omega)) ?_)) <;> first | exact g0_hit2 | exact gR_hit | rfl
    have z2 := z1.symm.trans z
    omega
  have z1 : (zuR (zini (o + 5) (o + 10) (zuR (zu0 (zuR (zu0 (zuR (zu0 (zuR (zu0 (zu0 σ o) (o + 1)) o 13 ((o + 1) + 1)) (o + 2)) o 14 ((o + 2) + 1)) (o + 3)) o 15 ((o + 3) + 1)) (o + 4)) o 16 ((o + 4) + 1))) (o + 4) 0 ((o + 5) + 1)).2 o 16 = (o + 4) + 1 := by
    (repeat (first | refine Eq.trans (gI_2) ?_ | refine Eq.trans (gR_k (by omega)) ?_ | refine Eq.trans (gR_a (by omega)) ?_ | refine Eq.trans (zu0_ne2 (by omega)) ?_ | refine Eq.trans (gi_2 (by omega)) ?_)) <;> first | exact g0_hit2 | exact gR_hit | rfl
  obtain rfl : q = (o + 4) := by
    have z2 := hq.symm.trans z1
    omega
  clear hq z1
  rw [show zlay (o + 4) = (24, 4) from (hz 4 (by decide))]
  refine And.intro (fun z => absurd z (by decide)) (fun _ => ?_)
  refine And.intro ?_ (fun q hq => ?_)
  · intro z
    have z1 : (zuR (zini (o + 5) (o + 10) (zuR (zu0 (zuR (zu0 (zuR (zu0 (zuR (zu0 (zu0 σ o) (o + 1)) o 13 ((o + 1) + 1)) (o + 2)) o 14 ((o + 2) + 1)) (o + 3)) o 15 ((o + 3) + 1)) (o + 4)) o 16 ((o + 4) + 1))) (o + 4) 0 ((o + 5) + 1)).2 o 16 = (o + 4) + 1 := by
      (repeat (first | refine Eq.trans (gI_2) ?_ | refine Eq.trans (gR_k (by omega)) ?_ | refine Eq.trans (gR_a (by omega)) ?_ | refine Eq.trans (zu0_ne2 (by omega)) ?_ | refine Eq.trans (gi_2 (by omega)) ?_)) <;> first | exact g0_hit2 | exact gR_hit | rfl
    have z2 := z1.symm.trans z
    omega
  have z1 : (zuR (zini (o + 5) (o + 10) (zuR (zu0 (zuR (zu0 (zuR (zu0 (zuR (zu0 (zu0 σ o) (o + 1)) o 13 ((o + 1) + 1)) (o + 2)) o 14 ((o + 2) + 1)) (o + 3)) o 15 ((o + 3) + 1)) (o + 4)) o 16 ((o + 4) + 1))) (o + 4) 0 ((o + 5) + 1)).2 o 16 = (o + 4) + 1 := by
    (repeat (first | refine Eq.trans (gI_2) ?_ | refine Eq.trans (gR_k (by omega)) ?_ | refine Eq.trans (gR_a (by omega)) ?_ | refine Eq.trans (zu0_ne2 (by omega)) ?_ | refine Eq.trans (gi_2 (by omega)) ?_)) <;> first | exact g0_hit2 | exact gR_hit | rfl
  obtain rfl : q = (o + 4) := by
    have z2 := hq.symm.trans z1
    omega
  clear hq z1
  rw [show zlay (o + 4) = (24, 4) from (hz 4 (by decide))]
  refine And.intro (hz 10 (by decide)) (And.intro rfl (And.intro (by omega) ?_))
  refine ⟨zno, (o + 15), by omega, zsl_mono (by omega), zCl.use (n_X5 (o + 10) (zuR (zini (o + 5) (o + 10) (zuR (zu0 (zuR (zu0 (zuR (zu0 (zuR (zu0 (zu0 σ o) (o + 1)) o 13 ((o + 1) + 1)) (o + 2)) o 14 ((o + 2) + 1)) (o + 3)) o 15 ((o + 3) + 1)) (o + 4)) o 16 ((o + 4) + 1))) (o + 4) 0 ((o + 5) + 1)) (by omega) (fun d hd => (congrArg zlay (Nat.add_assoc o 10 d)).trans ((hz (10 + d) (by omega)).trans (lyS_4_10 d hd)))) (by decide) ?_⟩
  rintro _ σz ⟨rfl, hz0⟩
  subst σz
  refine And.intro (vp_in_iff.mpr (by decide)) ?_
  refine And.intro ?_ (fun q hq => ?_)
  · intro z
    have z1 : (zuR (zini (o + 10) (o + 15) (zuR (zini (o + 5) (o + 10) (zuR (zu0 (zuR (zu0 (zuR (zu0 (zuR (zu0 (zu0 σ o) (o + 1)) o 13 ((o + 1) + 1)) (o + 2)) o 14 ((o + 2) + 1)) (o + 3)) o 15 ((o + 3) + 1)) (o + 4)) o 16 ((o + 4) + 1))) (o + 4) 0 ((o + 5) + 1))) (o + 4) 1 ((o + 10) + 1)).2 o 16 = (o + 4) + 1 := by
      (repeat (first | refine Eq.trans (gI_2) ?_ | refine Eq.trans (gR_k (by omega)) ?_ | refine Eq.trans (gR_a (by omega)) ?_ | refine Eq.trans (zu0_ne2 (by omega)) ?_ | refine Eq.trans (gi_2 (by omega)) ?_)) <;> first | exact g0_hit2 | exact gR_hit | rfl
    have z2 := z1.symm.trans z
    omega
  have z1 : (zuR (zini (o + 10) (o + 15) (zuR (zini (o + 5) (o + 10) (zuR (zu0 (zuR (zu0 (zuR (zu0 (zuR (zu0 (zu0 σ o) (o + 1)) o 13 ((o + 1) + 1)) (o + 2)) o 14 ((o + 2) + 1)) (o + 3)) o 15 ((o + 3) + 1)) (o + 4)) o 16 ((o + 4) + 1))) (o + 4) 0 ((o + 5) + 1))) (o + 4) 1 ((o + 10) + 1)).2 o 16 = (o + 4) + 1 := by
    (repeat (first | refine Eq.trans (gI_2) ?_ | refine Eq.trans (gR_k (by omega)) ?_ | refine Eq.trans (gR_a (by omega)) ?_ | refine Eq.trans (zu0_ne2 (by omega)) ?_ | refine Eq.trans (gi_2 (by omega)) ?_)) <;> first | exact g0_hit2 | exact gR_hit | rfl
  obtain rfl : q = (o + 4) := by
    have z2 := hq.symm.trans z1
    omega
  clear hq z1
  rw [show zlay (o + 4) = (24, 4) from (hz 4 (by decide))]
  refine And.intro (fun z => absurd z (by decide)) (fun _ => ?_)
  refine And.intro ?_ (fun q hq => ?_)
  · intro z
    have z1 : (zuR (zini (o + 10) (o + 15) (zuR (zini (o + 5) (o + 10) (zuR (zu0 (zuR (zu0 (zuR (zu0 (zuR (zu0 (zu0 σ o) (o + 1)) o 13 ((o + 1) + 1)) (o + 2)) o 14 ((o + 2) + 1)) (o + 3)) o 15 ((o + 3) + 1)) (o + 4)) o 16 ((o + 4) + 1))) (o + 4) 0 ((o + 5) + 1))) (o + 4) 1 ((o + 10) + 1)).2 o 16 = (o + 4) + 1 := by
      (repeat (first | refine Eq.trans (gI_2) ?_ | refine Eq.trans (gR_k (by omega)) ?_ | refine Eq.trans (gR_a (by omega)) ?_ | refine Eq.trans (zu0_ne2 (by omega)) ?_ | refine Eq.trans (gi_2 (by omega)) ?_)) <;> first | exact g0_hit2 | exact gR_hit | rfl
    have z2 := z1.symm.trans z
    omega
  have z1 : (zuR (zini (o + 10) (o + 15) (zuR (zini (o + 5) (o + 10) (zuR (zu0 (zuR (zu0 (zuR (zu0 (zuR (zu0 (zu0 σ o) (o + 1)) o 13 ((o + 1) + 1)) (o + 2)) o 14 ((o + 2) + 1)) (o + 3)) o 15 ((o + 3) + 1)) (o + 4)) o 16 ((o + 4) + 1))) (o + 4) 0 ((o + 5) + 1))) (o + 4) 1 ((o + 10) + 1)).2 o 16 = (o + 4) + 1 := by
    (repeat (first | refine Eq.trans (gI_2) ?_ | refine Eq.trans (gR_k (by omega)) ?_ | refine Eq.trans (gR_a (by omega)) ?_ | refine Eq.trans (zu0_ne2 (by omega)) ?_ | refine Eq.trans (gi_2 (by omega)) ?_)) <;> first | exact g0_hit2 | exact gR_hit | rfl
  obtain rfl : q = (o + 4) := by
    have z2 := hq.symm.trans z1
    omega
  clear hq z1
  rw [show zlay (o + 4) = (24, 4) from (hz 4 (by decide))]
  refine And.intro (hz 15 (by decide)) (And.intro rfl (And.intro (by omega) ?_))
  refine ⟨zno, (o + 20), by omega, zsl_mono (by omega), zCl.use (n_X5 (o + 15) (zuR (zini (o + 10) (o + 15) (zuR (zini (o + 5) (o + 10) (zuR (zu0 (zuR (zu0 (zuR (zu0 (zuR (zu0 (zu0 σ o) (o + 1)) o 13 ((o + 1) + 1)) (o + 2)) o 14 ((o + 2) + 1)) (o + 3)) o 15 ((o + 3) + 1)) (o + 4)) o 16 ((o + 4) + 1))) (o + 4) 0 ((o + 5) + 1))) (o + 4) 1 ((o + 10) + 1)) (by omega) (fun d hd => (congrArg zlay (Nat.add_assoc o 15 d)).trans ((hz (15 + d) (by omega)).trans (lyS_4_15 d hd)))) (by decide) ?_⟩
  rintro _ σz ⟨rfl, hz0⟩
  subst σz
  refine And.intro (vp_in_iff.mpr (by decide)) ?_
  refine And.intro ?_ (fun q hq => ?_)
  · intro z
    have z1 : (zuR (zini (o + 15) (o + 20) (zuR (zini (o + 10) (o + 15) (zuR (zini (o + 5) (o + 10) (zuR (zu0 (zuR (zu0 (zuR (zu0 (zuR (zu0 (zu0 σ o) (o + 1)) o 13 ((o + 1) + 1)) (o + 2)) o 14 ((o + 2) + 1)) (o + 3)) o 15 ((o + 3) + 1)) (o + 4)) o 16 ((o + 4) + 1))) (o + 4) 0 ((o + 5) + 1))) (o + 4) 1 ((o + 10) + 1))) (o + 4) 2 ((o + 15) + 1)).2 o 16 = (o + 4) + 1 := by
      (repeat (first | refine Eq.trans (gI_2) ?_ | refine Eq.trans (gR_k (by omega)) ?_ | refine Eq.trans (gR_a (by omega)) ?_ | refine Eq.trans (zu0_ne2 (by omega)) ?_ | refine Eq.trans (gi_2 (by omega)) ?_)) <;> first | exact g0_hit2 | exact gR_hit | rfl
    have z2 := z1.symm.trans z
    omega
  have z1 : (zuR (zini (o + 15) (o + 20) (zuR (zini (o + 10) (o + 15) (zuR (zini (o + 5) (o + 10) (zuR (zu0 (zuR (zu0 (zuR (zu0 (zuR (zu0 (zu0 σ o) (o + 1)) o 13 ((o + 1) + 1)) (o + 2)) o 14 ((o + 2) + 1)) (o + 3)) o 15 ((o + 3) + 1)) (o + 4)) o 16 ((o + 4) + 1))) (o + 4) 0 ((o + 5) + 1))) (o + 4) 1 ((o + 10) + 1))) (o + 4) 2 ((o + 15) + 1)).2 o 16 = (o + 4) + 1 := by
    (repeat (first | refine Eq.trans (gI_2) ?_ | refine Eq.trans (gR_k (by omega)) ?_ | refine Eq.trans (gR_a (by omega)) ?_ | refine Eq.trans (zu0_ne2 (by omega)) ?_ | refine Eq.trans (gi_2 (by omega)) ?_)) <;> first | exact g0_hit2 | exact gR_hit | rfl
  obtain rfl : q = (o + 4) := by
    have z2 := hq.symm.trans z1
    omega
  clear hq z1
  rw [show zlay (o + 4) = (24, 4) from (hz 4 (by decide))]
  refine And.intro (fun z => absurd z (by decide)) (fun _ => ?_)
  refine And.intro ?_ (fun q hq => ?_)
  · intro z
    have z1 : (zuR (zini (o + 15) (o + 20) (zuR (zini (o + 10) (o + 15) (zuR (zini (o + 5) (o + 10) (zuR (zu0 (zuR (zu0 (zuR (zu0 (zuR (zu0 (zu0 σ o) (o + 1)) o 13 ((o + 1) + 1)) (o + 2)) o 14 ((o + 2) + 1)) (o + 3)) o 15 ((o + 3) + 1)) (o + 4)) o 16 ((o + 4) + 1))) (o + 4) 0 ((o + 5) + 1))) (o + 4) 1 ((o + 10) + 1))) (o + 4) 2 ((o + 15) + 1)).2 o 16 = (o + 4) + 1 := by
      (repeat (first | refine Eq.trans (gI_2) ?_ | refine Eq.trans (gR_k (by omega)) ?_ | refine Eq.trans (gR_a (by omega)) ?_ | refine Eq.trans (zu0_ne2 (by omega)) ?_ | refine Eq.trans (gi_2 (by omega)) ?_)) <;> first | exact g0_hit2 | exact gR_hit | rfl
    have z2 := z1.symm.trans z
    omega
  have z1 : (zuR (zini (o + 15) (o + 20) (zuR (zini (o + 10) (o + 15) (zuR (zini (o + 5) (o + 10) (zuR (zu0 (zuR (zu0 (zuR (zu0 (zuR (zu0 (zu0 σ o) (o + 1)) o 13 ((o + 1) + 1)) (o + 2)) o 14 ((o + 2) + 1)) (o + 3)) o 15 ((o + 3) + 1)) (o + 4)) o 16 ((o + 4) + 1))) (o + 4) 0 ((o + 5) + 1))) (o + 4) 1 ((o + 10) + 1))) (o + 4) 2 ((o + 15) + 1)).2 o 16 = (o + 4) + 1 := by
    (repeat (first | refine Eq.trans (gI_2) ?_ | refine Eq.trans (gR_k (by omega)) ?_ | refine Eq.trans (gR_a (by omega)) ?_ | refine Eq.trans (zu0_ne2 (by omega)) ?_ | refine Eq.trans (gi_2 (by omega)) ?_)) <;> first | exact g0_hit2 | exact gR_hit | rfl
  obtain rfl : q = (o + 4) := by
    have z2 := hq.symm.trans z1
    omega
  clear hq z1
  rw [show zlay (o + 4) = (24, 4) from (hz 4 (by decide))]
  refine And.intro (hz 20 (by decide)) (And.intro rfl (And.intro (by omega) ?_))
  refine ⟨zno, (o + 25), by omega, zsl_mono (by omega), zCl.use (n_X5 (o + 20) (zuR (zini (o + 15) (o + 20) (zuR (zini (o + 10) (o + 15) (zuR (zini (o + 5) (o + 10) (zuR (zu0 (zuR (zu0 (zuR (zu0 (zuR (zu0 (zu0 σ o) (o + 1)) o 13 ((o + 1) + 1)) (o + 2)) o 14 ((o + 2) + 1)) (o + 3)) o 15 ((o + 3) + 1)) (o + 4)) o 16 ((o + 4) + 1))) (o + 4) 0 ((o + 5) + 1))) (o + 4) 1 ((o + 10) + 1))) (o + 4) 2 ((o + 15) + 1)) (by omega) (fun d hd => (congrArg zlay (Nat.add_assoc o 20 d)).trans ((hz (20 + d) (by omega)).trans (lyS_4_20 d hd)))) (by decide) ?_⟩
  rintro _ σz ⟨rfl, hz0⟩
  subst σz
  refine And.intro (vp_in_iff.mpr (by decide)) ?_
  refine And.intro ?_ (fun q hq => ?_)
  · intro z
    have z1 : (zuR (zini (o + 20) (o + 25) (zuR (zini (o + 15) (o + 20) (zuR (zini (o + 10) (o + 15) (zuR (zini (o + 5) (o + 10) (zuR (zu0 (zuR (zu0 (zuR (zu0 (zuR (zu0 (zu0 σ o) (o + 1)) o 13 ((o + 1) + 1)) (o + 2)) o 14 ((o + 2) + 1)) (o + 3)) o 15 ((o + 3) + 1)) (o + 4)) o 16 ((o + 4) + 1))) (o + 4) 0 ((o + 5) + 1))) (o + 4) 1 ((o + 10) + 1))) (o + 4) 2 ((o + 15) + 1))) (o + 4) 3 ((o + 20) + 1)).2 o 16 = (o + 4) + 1 := by
      (repeat (first | refine Eq.trans (gI_2) ?_ | refine Eq.trans (gR_k (by omega)) ?_ | refine Eq.trans (gR_a (by omega)) ?_ | refine Eq.trans (zu0_ne2 (by omega)) ?_ | refine Eq.trans (gi_2 (by omega)) ?_)) <;> first | exact g0_hit2 | exact gR_hit | rfl
    have z2 := z1.symm.trans z
    omega
  have z1 : (zuR (zini (o + 20) (o + 25) (zuR (zini (o + 15) (o + 20) (zuR (zini (o + 10) (o + 15) (zuR (zini (o + 5) (o + 10) (zuR (zu0 (zuR (zu0 (zuR (zu0 (zuR (zu0 (zu0 σ o) (o + 1)) o 13 ((o + 1) + 1)) (o + 2)) o 14 ((o + 2) + 1)) (o + 3)) o 15 ((o + 3) + 1)) (o + 4)) o 16 ((o + 4) + 1))) (o + 4) 0 ((o + 5) + 1))) (o + 4) 1 ((o + 10) + 1))) (o + 4) 2 ((o + 15) + 1))) (o + 4) 3 ((o + 20) + 1)).2 o 16 = (o + 4) + 1 := by
    (repeat (first | refine Eq.trans (gI_2) ?_ | refine Eq.trans (gR_k (by omega)) ?_ | refine Eq.trans (gR_a (by omega)) ?_ | refine Eq.trans (zu0_ne2 (by omega)) ?_ | refine Eq.trans (gi_2 (by omega)) ?_)) <;> first | exact g0_hit2 | exact gR_hit | rfl
  obtain rfl : q = (o + 4) := by
    have z2 := hq.symm.trans z1
    omega
  clear hq z1
  rw [show zlay (o + 4) = (24, 4) from (hz 4 (by decide))]
  refine And.intro (fun _ => ?_) (fun z => absurd (by decide) z)
  exact And.intro rfl (And.intro rfl ⟨rfl, m_X4 o σ hz⟩)
