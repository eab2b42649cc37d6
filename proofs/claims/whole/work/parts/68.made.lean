/-! the constructors: the cells of a span, as they are made (zini); nothing is complete yet -/
def zno : Nat → Bool := fun _ => false
def iL : List Int32 := [119, 105, 110, 100, 111, 119, 115, 32, 104, 97, 110, 100, 108, 101, 114, 32, 115, 108, 105, 99, 101, 32, 112, 114, 105, 99, 101, 32, 100, 101, 102, 32, 116, 97, 115, 107, 32, 115, 105, 110, 103, 108, 101, 32, 102, 105, 120, 101, 100, 32, 99, 111, 117, 110, 116, 101, 114, 32, 100, 111, 117, 98, 108, 101, 32, 105, 102, 32, 116, 104, 101, 110, 32, 101, 108, 115, 101, 32]
def iI (a k : Nat) : Int32 := match (zlay a).1 with
  | 2 => (match k with | 0 => 6 | 3 => 8 | 4 => 10 | 5 => 1 | _ => 0)
  | 8 => (match k with | 4 => -1 | _ => 0)
  | 9 => (match k with | 28 => -1 | _ => 0)
  | 21 => if a = 486 then iL.getD k 0 else 0
  | _ => 0
def iRL : List (List (Nat × Nat)) := [[(0, 0), (0, 0), (0, 0), (0, 0), (2, 1000001), (0, 0), (1, 2), (1, 3), (1, 4)],
  [(1, 2), (0, 0), (0, 0)],
  [(0, 0), (0, 0), (0, 0), (0, 0), (0, 0), (0, 0), (0, 0), (0, 0), (0, 0), (0, 0), (1, 2), (1, 3), (1, 4), (1, 5), (1, 6), (1, 7)],
  [(1, 2), (2, 6), (0, 0), (0, 0), (0, 0), (0, 0), (0, 0), (0, 0), (1, 11), (1, 12), (1, 13), (1, 14)],
  [(0, 0), (0, 0), (0, 0), (0, 0), (0, 0), (0, 0), (0, 0), (0, 0), (0, 0), (0, 0), (0, 0), (0, 0), (0, 0), (1, 2), (1, 3), (1, 4), (1, 5)],
  [(1, 2), (0, 0), (0, 0), (0, 0), (0, 0), (0, 0), (0, 0), (0, 0), (0, 0), (0, 0), (0, 0), (0, 0)],
  [(2, 5), (0, 0), (0, 0), (0, 0), (0, 0), (0, 0)],
  [(1, 2), (1, 6), (0, 0), (0, 0), (0, 0)],
  [(1, 2), (0, 0), (1, 3), (0, 0), (0, 0), (2, 17), (2, 24), (1, 31), (1, 358), (1, 359), (1, 360), (1, 385), (1, 391), (1, 392), (1, 393), (1, 394)],
  [(1, 2), (1, 3), (1, 4), (1, 5), (1, 6), (1, 7), (1, 8), (1, 9), (1, 10), (1, 11), (1, 12), (1, 13), (1, 14), (1, 15), (1, 16), (1, 17), (0, 0), (1, 18), (0, 0), (0, 0), (0, 0), (0, 0), (0, 0), (0, 0), (0, 0), (0, 0), (0, 0), (0, 0), (0, 0), (1, 19), (1, 20), (1, 21), (0, 0), (0, 0), (1, 22), (1, 23), (1, 24), (0, 0), (0, 0), (0, 0), (1, 25), (0, 0), (0, 0), (1, 26), (1, 27), (0, 0), (0, 0), (0, 0), (0, 0), (1, 28), (1, 29), (1, 30), (1, 31), (1, 32), (1, 33), (0, 0), (0, 0)]]
def iRv (a : Nat) (q : Nat × Nat) : Nat := match q.1 with | 0 => 0 | 1 => a + q.2 | _ => q.2
def iR (a k : Nat) : Nat := match (zlay a).1 with
  | 0 => iRv a ((iRL.getD 0 []).getD k (0, 0))
  | 1 => iRv a ((iRL.getD 1 []).getD k (0, 0))
  | 2 => iRv a ((iRL.getD 2 []).getD k (0, 0))
  | 3 => iRv a ((iRL.getD 3 []).getD k (0, 0))
  | 4 => iRv a ((iRL.getD 4 []).getD k (0, 0))
  | 5 => iRv a ((iRL.getD 5 []).getD k (0, 0))
  | 6 => iRv a ((iRL.getD 6 []).getD k (0, 0))
  | 7 => iRv a ((iRL.getD 7 []).getD k (0, 0))
  | 8 => iRv a ((iRL.getD 8 []).getD k (0, 0))
  | 9 => iRv a ((iRL.getD 9 []).getD k (0, 0))
  | 23 => if a = 31 then (if k < 13 then 33 + 25 * k else 0) else (if k < 2 then 395 + 25 * k else 0)
  | 24 => if k < 4 then a + 2 + 5 * k else 0
  | 25 => if k < 4 then 445 + 6 * k else 0
  | _ => 0
def zini (o e : Nat) (σ : zS) : zS := (fun q j => if o ≤ q ∧ q < e then iI q j else σ.1 q j, fun q j => if o ≤ q ∧ q < e then iR q j else σ.2 q j)
theorem zext {σ τ : zS} (h1 : ∀ q j, σ.1 q j = τ.1 q j) (h2 : ∀ q j, σ.2 q j = τ.2 q j) : σ = τ := Prod.ext (funext fun q => funext fun j => h1 q j) (funext fun q => funext fun j => h2 q j)
theorem zini_nest {o e f : Nat} {σ : zS} (h : o ≤ e) (h1 : e ≤ f) : zini e f (zini o e σ) = zini o f σ := by
  refine zext (fun q j => ?_) (fun q j => ?_)
  · show (if e ≤ q ∧ q < f then iI q j else if o ≤ q ∧ q < e then iI q j else σ.1 q j) = if o ≤ q ∧ q < f then iI q j else σ.1 q j
    split <;> split <;> (try split) <;> first | rfl | omega
  · show (if e ≤ q ∧ q < f then iR q j else if o ≤ q ∧ q < e then iR q j else σ.2 q j) = if o ≤ q ∧ q < f then iR q j else σ.2 q j
    split <;> split <;> (try split) <;> first | rfl | omega
theorem zini_uR {o e a k n : Nat} {σ : zS} (h : a < o ∨ e ≤ a) : zini o e (zuR σ a k n) = zuR (zini o e σ) a k n := by
  refine zext (fun q j => rfl) (fun q j => ?_)
  show (if o ≤ q ∧ q < e then iR q j else if q = a ∧ j = k then n else σ.2 q j) = if q = a ∧ j = k then n else if o ≤ q ∧ q < e then iR q j else σ.2 q j
  split <;> split <;> first | rfl | omega
theorem zini_uI {o e a k : Nat} {x : Int32} {σ : zS} (h : a < o ∨ e ≤ a) : zini o e (zuI σ a k x) = zuI (zini o e σ) a k x := by
  refine zext (fun q j => ?_) (fun q j => rfl)
  show (if o ≤ q ∧ q < e then iI q j else if q = a ∧ j = k then x else σ.1 q j) = if q = a ∧ j = k then x else if o ≤ q ∧ q < e then iI q j else σ.1 q j
  split <;> split <;> first | rfl | omega
theorem zini_at1 {o e q j : Nat} {σ : zS} : (zini o e σ).1 q j = if o ≤ q ∧ q < e then iI q j else σ.1 q j := rfl
theorem zini_at2 {o e q j : Nat} {σ : zS} : (zini o e σ).2 q j = if o ≤ q ∧ q < e then iR q j else σ.2 q j := rfl
theorem zini_u0 {o e : Nat} {σ : zS} (h : o < e) : zini o e (zu0 σ o) = zini o e σ := by
  refine zext (fun q j => ?_) (fun q j => ?_)
  · show (if o ≤ q ∧ q < e then iI q j else if q = o then 0 else σ.1 q j) = if o ≤ q ∧ q < e then iI q j else σ.1 q j
    split
    · rfl
    · rw [if_neg (by omega)]
  · show (if o ≤ q ∧ q < e then iR q j else if q = o then 0 else σ.2 q j) = if o ≤ q ∧ q < e then iR q j else σ.2 q j
    split
    · rfl
    · rw [if_neg (by omega)]
/-- an int array as it is made -/
theorem zini_arr {a t n : Nat} {σ : zS} (h : zlay a = (t, n)) (ht : t = 20 ∨ t = 22) : zu0 σ a = zini a (a + 1) σ := by
  refine zext (fun q j => ?_) (fun q j => ?_)
  · show (if q = a then 0 else σ.1 q j) = if a ≤ q ∧ q < a + 1 then iI q j else σ.1 q j
    by_cases hq : q = a
    · subst hq
      rw [if_pos rfl, if_pos (by omega)]
      unfold iI
      rw [h]
      rcases ht with rfl | rfl <;> rfl
    · rw [if_neg hq, if_neg (by omega)]
  · show (if q = a then 0 else σ.2 q j) = if a ≤ q ∧ q < a + 1 then iR q j else σ.2 q j
    by_cases hq : q = a
    · subst hq
      rw [if_pos rfl, if_pos (by omega)]
      unfold iR
      rw [h]
      rcases ht with rfl | rfl <;> rfl
    · rw [if_neg hq, if_neg (by omega)]
/-- an object whose fields were set, over its other cells -/
theorem zini_obj {o e : Nat} {σ τ : zS} (h1 : ∀ j, τ.1 o j = iI o j) (h2 : ∀ j, τ.2 o j = iR o j) (h3 : ∀ q j, ¬ q = o → τ.1 q j = (zini (o + 1) e σ).1 q j) (h4 : ∀ q j, ¬ q = o → τ.2 q j = (zini (o + 1) e σ).2 q j) (he : o < e) : τ = zini o e σ := by
  refine zext (fun q j => ?_) (fun q j => ?_)
  · show _ = if o ≤ q ∧ q < e then iI q j else σ.1 q j
    by_cases hq : q = o
    · subst hq
      rw [h1, if_pos (by omega)]
    · rw [h3 q j hq, zini_at1]
      split <;> split <;> first | rfl | omega
  · show _ = if o ≤ q ∧ q < e then iR q j else σ.2 q j
    by_cases hq : q = o
    · subst hq
      rw [h2, if_pos (by omega)]
    · rw [h4 q j hq, zini_at2]
      split <;> split <;> first | rfl | omega
theorem zu0_ne1 {σ : zS} {a q j : Nat} (h : ¬ q = a) : (zu0 σ a).1 q j = σ.1 q j := if_neg h
theorem zu0_ne2 {σ : zS} {a q j : Nat} (h : ¬ q = a) : (zu0 σ a).2 q j = σ.2 q j := if_neg h
theorem zuR_eq {σ : zS} {a k n j : Nat} : (zuR σ a k n).2 a j = if j = k then n else σ.2 a j := by
  show (if a = a ∧ j = k then n else σ.2 a j) = _
  by_cases h : j = k <;> simp [h]
theorem zuI_eq {σ : zS} {a k j : Nat} {x : Int32} : (zuI σ a k x).1 a j = if j = k then x else σ.1 a j := by
  show (if a = a ∧ j = k then x else σ.1 a j) = _
  by_cases h : j = k <;> simp [h]
theorem zu0_eq1 {σ : zS} {a j : Nat} : (zu0 σ a).1 a j = 0 := if_pos rfl
theorem zu0_eq2 {σ : zS} {a j : Nat} : (zu0 σ a).2 a j = 0 := if_pos rfl
