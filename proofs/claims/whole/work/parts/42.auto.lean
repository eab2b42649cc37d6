/-! printed by wip/whole/dec2.py -/
def u_X5_guessToSpill_1 (o : Nat) (x1 : Int32) (x2 : Int32) (σ : zS) : zS := zuI σ o 6 (if 3 < ((σ.1 o 6) + 1) then 3 else ((σ.1 o 6) + 1))
def u_X5_guessToSpill_2 (o : Nat) (x1 : Int32) (x2 : Int32) (σ : zS) : zS := zuI σ o 7 1
def u_X5_guessToSpill_3 (o : Nat) (x1 : Int32) (x2 : Int32) (σ : zS) : zS := zuI σ o 7 (if x2 < ((σ.1 o 7) * 2) then x2 else ((σ.1 o 7) * 2))
def r_X5_guessToSpill (o : Nat) (x1 : Int32) (x2 : Int32) (σ : zS) : Int32 × zS := if x1 = 1 then (x2, σ) else (if x1 = 2 then ((σ.1 o 6) + 1, (u_X5_guessToSpill_1 o x1 x2 σ)) else (if x1 = 3 then (if (σ.1 o 7) ≤ 0 then ((u_X5_guessToSpill_2 o x1 x2 σ).1 o 7, (u_X5_guessToSpill_2 o x1 x2 σ)) else ((u_X5_guessToSpill_3 o x1 x2 σ).1 o 7, (u_X5_guessToSpill_3 o x1 x2 σ))) else (1, σ)))
set_option maxRecDepth 100000 in
set_option maxHeartbeats 1000000 in
theorem c_X5_guessToSpill {cp : Nat → Bool} {nx : Nat} (o : Nat) (x1 : Int32) (x2 : Int32) (σ : zS) : zCl 1 cp nx cp nx 88 [.inr (5, 12, o), .inl x1, .inl x2] σ (fun v σ1 => v = some (.inl ((r_X5_guessToSpill o x1 x2 σ).1)) ∧ σ1 = (r_X5_guessToSpill o x1 x2 σ).2) := by
  refine zmeth (cd := kX5_guessToSpill) [] 1000 (Nat.le_of_ble_eq_true rfl) rfl okX5_guessToSpill (Nat.le_refl _) (Nat.le_of_ble_eq_true rfl) ?_
  refine And.intro (fun (h1 : x1 = 1) => ?_) (fun (h1 : ¬ x1 = 1) => ?_)
  · exact And.intro rfl (And.intro rfl ⟨by rw [r_X5_guessToSpill, if_pos h1] <;> rfl, by rw [r_X5_guessToSpill, if_pos h1] <;> rfl⟩)
  · refine And.intro (fun (h2 : x1 = 2) => ?_) (fun (h2 : ¬ x1 = 2) => ?_)
    · exact And.intro rfl (And.intro rfl ⟨by rw [r_X5_guessToSpill, if_neg h1, if_pos h2] <;> rfl, by rw [r_X5_guessToSpill, if_neg h1, if_pos h2] <;> rfl⟩)
    · refine And.intro (fun (h3 : x1 = 3) => ?_) (fun (h3 : ¬ x1 = 3) => ?_)
      · refine And.intro (fun (h4 : (σ.1 o 7) ≤ 0) => ?_) (fun (h4 : ¬ (σ.1 o 7) ≤ 0) => ?_)
        · exact And.intro rfl (And.intro rfl ⟨by rw [r_X5_guessToSpill, if_neg h1, if_neg h2, if_pos h3, if_pos h4] <;> rfl, by rw [r_X5_guessToSpill, if_neg h1, if_neg h2, if_pos h3, if_pos h4] <;> rfl⟩)
        · exact And.intro rfl (And.intro rfl ⟨by rw [r_X5_guessToSpill, if_neg h1, if_neg h2, if_pos h3, if_neg h4] <;> rfl, by rw [r_X5_guessToSpill, if_neg h1, if_neg h2, if_pos h3, if_neg h4] <;> rfl⟩)
      · exact And.intro rfl (And.intro rfl ⟨by rw [r_X5_guessToSpill, if_neg h1, if_neg h2, if_neg h3] <;> rfl, by rw [r_X5_guessToSpill, if_neg h1, if_neg h2, if_neg h3] <;> rfl⟩)
def u_X5_guessToFill_1 (o : Nat) (x1 : Int32) (x2 : Int32) (σ : zS) : zS := zuI σ o 6 (if ((σ.1 o 6) - 1) < 0 then 0 else ((σ.1 o 6) - 1))
def u_X5_guessToFill_2 (o : Nat) (x1 : Int32) (x2 : Int32) (σ : zS) : zS := zuI σ o 7 (-1)
def u_X5_guessToFill_3 (o : Nat) (x1 : Int32) (x2 : Int32) (σ : zS) : zS := zuI σ o 7 (if ((σ.1 o 7) * 2) < (-x2) then (-x2) else ((σ.1 o 7) * 2))
def r_X5_guessToFill (o : Nat) (x1 : Int32) (x2 : Int32) (σ : zS) : Int32 × zS := if x1 = 1 then (x2, σ) else (if x1 = 2 then (4 - (σ.1 o 6), (u_X5_guessToFill_1 o x1 x2 σ)) else (if x1 = 3 then (if 0 ≤ (σ.1 o 7) then (-((u_X5_guessToFill_2 o x1 x2 σ).1 o 7), (u_X5_guessToFill_2 o x1 x2 σ)) else (-((u_X5_guessToFill_3 o x1 x2 σ).1 o 7), (u_X5_guessToFill_3 o x1 x2 σ))) else (1, σ)))
set_option maxRecDepth 100000 in
set_option maxHeartbeats 1000000 in
theorem c_X5_guessToFill {cp : Nat → Bool} {nx : Nat} (o : Nat) (x1 : Int32) (x2 : Int32) (σ : zS) : zCl 1 cp nx cp nx 89 [.inr (5, 12, o), .inl x1, .inl x2] σ (fun v σ1 => v = some (.inl ((r_X5_guessToFill o x1 x2 σ).1)) ∧ σ1 = (r_X5_guessToFill o x1 x2 σ).2) := by
  refine zmeth (cd := kX5_guessToFill) [] 1000 (Nat.le_of_ble_eq_true rfl) rfl okX5_guessToFill (Nat.le_refl _) (Nat.le_of_ble_eq_true rfl) ?_
  refine And.intro (fun (h1 : x1 = 1) => ?_) (fun (h1 : ¬ x1 = 1) => ?_)
  · exact And.intro rfl (And.intro rfl ⟨by rw [r_X5_guessToFill, if_pos h1] <;> rfl, by rw [r_X5_guessToFill, if_pos h1] <;> rfl⟩)
  · refine And.intro (fun (h2 : x1 = 2) => ?_) (fun (h2 : ¬ x1 = 2) => ?_)
    · exact And.intro rfl (And.intro rfl ⟨by rw [r_X5_guessToFill, if_neg h1, if_pos h2] <;> rfl, by rw [r_X5_guessToFill, if_neg h1, if_pos h2] <;> rfl⟩)
    · refine And.intro (fun (h3 : x1 = 3) => ?_) (fun (h3 : ¬ x1 = 3) => ?_)
      · refine And.intro (fun (h4 : 0 ≤ (σ.1 o 7)) => ?_) (fun (h4 : ¬ 0 ≤ (σ.1 o 7)) => ?_)
        · exact And.intro rfl (And.intro rfl ⟨by rw [r_X5_guessToFill, if_neg h1, if_neg h2, if_pos h3, if_pos h4] <;> rfl, by rw [r_X5_guessToFill, if_neg h1, if_neg h2, if_pos h3, if_pos h4] <;> rfl⟩)
        · exact And.intro rfl (And.intro rfl ⟨by rw [r_X5_guessToFill, if_neg h1, if_neg h2, if_pos h3, if_neg h4] <;> rfl, by rw [r_X5_guessToFill, if_neg h1, if_neg h2, if_pos h3, if_neg h4] <;> rfl⟩)
      · exact And.intro rfl (And.intro rfl ⟨by rw [r_X5_guessToFill, if_neg h1, if_neg h2, if_neg h3] <;> rfl, by rw [r_X5_guessToFill, if_neg h1, if_neg h2, if_neg h3] <;> rfl⟩)
def f_X6_isBlank (x1 : Int32) : Int32 := if x1 = 32 then 1 else (if x1 = 10 then 1 else 0)
set_option maxRecDepth 100000 in
set_option maxHeartbeats 1000000 in
theorem c_X6_isBlank {cp : Nat → Bool} {nx : Nat} (x1 : Int32) (σ : zS) : zCl 1 cp nx cp nx 98 [.inl x1] σ (fun v σ1 => v = some (.inl (f_X6_isBlank x1)) ∧ σ1 = σ) := by
  refine zmeth (cd := kX6_isBlank) [] 1000 (Nat.le_of_ble_eq_true rfl) rfl okX6_isBlank (Nat.le_refl _) (Nat.le_of_ble_eq_true rfl) ?_
  refine And.intro (fun (h1 : x1 = 32) => ?_) (fun (h1 : ¬ x1 = 32) => ?_)
  · exact And.intro rfl (And.intro rfl (And.intro (Or.inr rfl) ⟨by rw [f_X6_isBlank, if_pos h1] <;> rfl, rfl⟩))
  · refine And.intro (fun (h2 : ¬ x1 = 10) => ?_) (fun (h2 : x1 = 10) => ?_)
    · exact And.intro rfl (And.intro rfl (And.intro (Or.inl rfl) ⟨by rw [f_X6_isBlank, if_neg h1, if_neg h2] <;> rfl, rfl⟩))
    · exact And.intro rfl (And.intro rfl (And.intro (Or.inr rfl) ⟨by rw [f_X6_isBlank, if_neg h1, if_pos h2] <;> rfl, rfl⟩))
theorem b_X6_isBlank {x1 : Int32} : f_X6_isBlank x1 = 0 ∨ f_X6_isBlank x1 = 1 := by
  unfold f_X6_isBlank
  (repeat' split) <;> first | exact Or.inl rfl | exact Or.inr rfl
def f_X6_isLetter (x1 : Int32) : Int32 := if x1 < 97 then 0 else (if 122 < x1 then 0 else 1)
set_option maxRecDepth 100000 in
set_option maxHeartbeats 1000000 in
theorem c_X6_isLetter {cp : Nat → Bool} {nx : Nat} (x1 : Int32) (σ : zS) : zCl 1 cp nx cp nx 99 [.inl x1] σ (fun v σ1 => v = some (.inl (f_X6_isLetter x1)) ∧ σ1 = σ) := by
  refine zmeth (cd := kX6_isLetter) [] 1000 (Nat.le_of_ble_eq_true rfl) rfl okX6_isLetter (Nat.le_refl _) (Nat.le_of_ble_eq_true rfl) ?_
  refine And.intro (fun (h1 : x1 < 97) => ?_) (fun (h1 : ¬ x1 < 97) => ?_)
  · exact And.intro rfl (And.intro rfl (And.intro (Or.inl rfl) ⟨by rw [f_X6_isLetter, if_pos h1] <;> rfl, rfl⟩))
  · refine And.intro (fun (h2 : 122 < x1) => ?_) (fun (h2 : ¬ 122 < x1) => ?_)
    · exact And.intro rfl (And.intro rfl (And.intro (Or.inl rfl) ⟨by rw [f_X6_isLetter, if_neg h1, if_pos h2] <;> rfl, rfl⟩))
    · exact And.intro rfl (And.intro rfl (And.intro (Or.inr rfl) ⟨by rw [f_X6_isLetter, if_neg h1, if_neg h2] <;> rfl, rfl⟩))
theorem b_X6_isLetter {x1 : Int32} : f_X6_isLetter x1 = 0 ∨ f_X6_isLetter x1 = 1 := by
  unfold f_X6_isLetter
  (repeat' split) <;> first | exact Or.inl rfl | exact Or.inr rfl
def f_X6_isDigit (x1 : Int32) : Int32 := if x1 < 48 then 0 else (if 57 < x1 then 0 else 1)
set_option maxRecDepth 100000 in
set_option maxHeartbeats 1000000 in
theorem c_X6_isDigit {cp : Nat → Bool} {nx : Nat} (x1 : Int32) (σ : zS) : zCl 1 cp nx cp nx 100 [.inl x1] σ (fun v σ1 => v = some (.inl (f_X6_isDigit x1)) ∧ σ1 = σ) := by
  refine zmeth (cd := kX6_isDigit) [] 1000 (Nat.le_of_ble_eq_true rfl) rfl okX6_isDigit (Nat.le_refl _) (Nat.le_of_ble_eq_true rfl) ?_
  refine And.intro (fun (h1 : x1 < 48) => ?_) (fun (h1 : ¬ x1 < 48) => ?_)
  · exact And.intro rfl (And.intro rfl (And.intro (Or.inl rfl) ⟨by rw [f_X6_isDigit, if_pos h1] <;> rfl, rfl⟩))
  · refine And.intro (fun (h2 : 57 < x1) => ?_) (fun (h2 : ¬ 57 < x1) => ?_)
    · exact And.intro rfl (And.intro rfl (And.intro (Or.inl rfl) ⟨by rw [f_X6_isDigit, if_neg h1, if_pos h2] <;> rfl, rfl⟩))
    · exact And.intro rfl (And.intro rfl (And.intro (Or.inr rfl) ⟨by rw [f_X6_isDigit, if_neg h1, if_neg h2] <;> rfl, rfl⟩))
theorem b_X6_isDigit {x1 : Int32} : f_X6_isDigit x1 = 0 ∨ f_X6_isDigit x1 = 1 := by
  unfold f_X6_isDigit
  (repeat' split) <;> first | exact Or.inl rfl | exact Or.inr rfl
def u_X8_end_1 (x1 : Int32) (σ : zS) : zS := zuI σ 0 1 x1
def r_X8_end (x1 : Int32) (σ : zS) : Int32 × zS := if x1 < 0 then (-1, σ) else (if x1 ≤ (σ.1 0 1) then (x1, (u_X8_end_1 x1 σ)) else (-1, σ))
set_option maxRecDepth 100000 in
set_option maxHeartbeats 1000000 in
theorem c_X8_end {cp : Nat → Bool} {nx : Nat} (x1 : Int32) (σ : zS) : zCl 1 cp nx cp nx 110 [.inr (8, 16, 0), .inl x1] σ (fun v σ1 => v = some (.inl ((r_X8_end x1 σ).1)) ∧ σ1 = (r_X8_end x1 σ).2) := by
  refine zmeth (cd := kX8_end) [] 1000 (Nat.le_of_ble_eq_true rfl) rfl okX8_end (Nat.le_refl _) (Nat.le_of_ble_eq_true rfl) ?_
  refine And.intro (fun (h1 : x1 < 0) => ?_) (fun (h1 : ¬ x1 < 0) => ?_)
  · exact And.intro rfl (And.intro rfl ⟨by rw [r_X8_end, if_pos h1] <;> rfl, by rw [r_X8_end, if_pos h1] <;> rfl⟩)
  · refine And.intro (fun (h2 : x1 ≤ (σ.1 0 1)) => ?_) (fun (h2 : ¬ x1 ≤ (σ.1 0 1)) => ?_)
    · exact And.intro rfl (And.intro rfl ⟨by rw [r_X8_end, if_neg h1, if_pos h2] <;> rfl, by rw [r_X8_end, if_neg h1, if_pos h2] <;> rfl⟩)
    · exact And.intro rfl (And.intro rfl ⟨by rw [r_X8_end, if_neg h1, if_neg h2] <;> rfl, by rw [r_X8_end, if_neg h1, if_neg h2] <;> rfl⟩)
def f_X8_fault (x1 : Int32) (σ : zS) : Int32 := if x1 = 0 then (σ.1 0 3) else (if x1 = 1 then (σ.1 0 4) else (-1))
set_option maxRecDepth 100000 in
set_option maxHeartbeats 1000000 in
theorem c_X8_fault {cp : Nat → Bool} {nx : Nat} (x1 : Int32) (σ : zS) : zCl 1 cp nx cp nx 112 [.inr (8, 16, 0), .inl x1] σ (fun v σ1 => v = some (.inl (f_X8_fault x1 σ)) ∧ σ1 = σ) := by
  refine zmeth (cd := kX8_fault) [] 1000 (Nat.le_of_ble_eq_true rfl) rfl okX8_fault (Nat.le_refl _) (Nat.le_of_ble_eq_true rfl) ?_
  refine And.intro (fun (h1 : ¬ x1 = 0) => ?_) (fun (h1 : x1 = 0) => ?_)
  · refine And.intro (fun (h2 : ¬ x1 = 1) => ?_) (fun (h2 : x1 = 1) => ?_)
    · exact And.intro rfl (And.intro rfl ⟨by rw [f_X8_fault, if_neg h1, if_neg h2] <;> rfl, rfl⟩)
    · exact And.intro rfl (And.intro rfl ⟨by rw [f_X8_fault, if_neg h1, if_pos h2] <;> rfl, rfl⟩)
  · exact And.intro rfl (And.intro rfl ⟨by rw [f_X8_fault, if_pos h1] <;> rfl, rfl⟩)
def u_X8_undo_1 (σ : zS) : zS := (r_X1_stepBack σ).2
def r_X8_undo (σ : zS) : Int32 × zS := ((r_X1_stepBack σ).1, (u_X8_undo_1 σ))
set_option maxRecDepth 100000 in
set_option maxHeartbeats 1000000 in
theorem c_X8_undo {nx : Nat} (σ : zS) : zCl 2 zall nx zall nx 118 [.inr (8, 16, 0)] σ (fun v σ1 => v = some (.inl ((r_X8_undo σ).1)) ∧ σ1 = (r_X8_undo σ).2) := by
  refine zmeth (cd := kX8_undo) [] 1000 (Nat.le_of_ble_eq_true rfl) rfl okX8_undo (Nat.le_refl _) (Nat.le_of_ble_eq_true rfl) ?_
  refine zCl.use (c_X1_stepBack σ) (Nat.le_of_ble_eq_true rfl) ?_
  rintro _ σz ⟨rfl, hz⟩
  subst σz
  exact And.intro rfl (And.intro rfl (And.intro b_X1_stepBack ⟨by rw [r_X8_undo] <;> rfl, by rw [r_X8_undo] <;> rfl⟩))
theorem b_X8_undo {σ : zS} : (r_X8_undo σ).1 = 0 ∨ (r_X8_undo σ).1 = 1 := by
  unfold r_X8_undo
  (repeat' split) <;> first | exact Or.inl rfl | exact Or.inr rfl | exact b_X1_stepBack
def u_X8_redo_1 (σ : zS) : zS := (r_X1_stepOn σ).2
def r_X8_redo (σ : zS) : Int32 × zS := ((r_X1_stepOn σ).1, (u_X8_redo_1 σ))
set_option maxRecDepth 100000 in
set_option maxHeartbeats 1000000 in
theorem c_X8_redo {nx : Nat} (σ : zS) : zCl 2 zall nx zall nx 119 [.inr (8, 16, 0)] σ (fun v σ1 => v = some (.inl ((r_X8_redo σ).1)) ∧ σ1 = (r_X8_redo σ).2) := by
  refine zmeth (cd := kX8_redo) [] 1000 (Nat.le_of_ble_eq_true rfl) rfl okX8_redo (Nat.le_refl _) (Nat.le_of_ble_eq_true rfl) ?_
  refine zCl.use (c_X1_stepOn σ) (Nat.le_of_ble_eq_true rfl) ?_
  rintro _ σz ⟨rfl, hz⟩
  subst σz
  exact And.intro rfl (And.intro rfl (And.intro b_X1_stepOn ⟨by rw [r_X8_redo] <;> rfl, by rw [r_X8_redo] <;> rfl⟩))
theorem b_X8_redo {σ : zS} : (r_X8_redo σ).1 = 0 ∨ (r_X8_redo σ).1 = 1 := by
  unfold r_X8_redo
  (repeat' split) <;> first | exact Or.inl rfl | exact Or.inr rfl | exact b_X1_stepOn
def f_X8_at (n1 : Nat) (q1 : Nat) (x2 : Int32) (σ : zS) : Int32 := if x2 < 0 then 0 else (if (Int32.ofNat n1) ≤ x2 then 0 else (σ.1 q1 (x2).toNatClampNeg))
def p_X8_at (n1 : Nat) (q1 : Nat) (x2 : Int32) (σ : zS) : Prop := ¬ x2 < 0 → (¬ (Int32.ofNat n1) ≤ x2 → vp_in x2 n1)
set_option maxRecDepth 100000 in
set_option maxHeartbeats 1000000 in
theorem c_X8_at {cp : Nat → Bool} {nx : Nat} (n1 : Nat) (q1 : Nat) (x2 : Int32) (σ : zS) (hp : p_X8_at n1 q1 x2 σ) : zCl 1 cp nx cp nx 140 [.inr (20, n1, q1), .inl x2] σ (fun v σ1 => v = some (.inl (f_X8_at n1 q1 x2 σ)) ∧ σ1 = σ) := by
  refine zmeth (cd := kX8_at) [] 1000 (Nat.le_of_ble_eq_true rfl) rfl okX8_at (Nat.le_refl _) (Nat.le_of_ble_eq_true rfl) ?_
  refine And.intro (fun (h1 : x2 < 0) => ?_) (fun (h1 : ¬ x2 < 0) => ?_)
  · exact And.intro rfl (And.intro rfl ⟨by rw [f_X8_at, if_pos h1] <;> rfl, rfl⟩)
  · refine And.intro (fun (h2 : (Int32.ofNat n1) ≤ x2) => ?_) (fun (h2 : ¬ (Int32.ofNat n1) ≤ x2) => ?_)
    · exact And.intro rfl (And.intro rfl ⟨by rw [f_X8_at, if_neg h1, if_pos h2] <;> rfl, rfl⟩)
    · refine And.intro ((hp h1) h2) ?_
      exact And.intro rfl (And.intro rfl ⟨by rw [f_X8_at, if_neg h1, if_neg h2] <;> rfl, rfl⟩)
def u_X8_put_1 (n1 : Nat) (q1 : Nat) (x2 : Int32) (x3 : Int32) (σ : zS) : zS := zuI σ q1 (x2).toNatClampNeg x3
def s_X8_put (n1 : Nat) (q1 : Nat) (x2 : Int32) (x3 : Int32) (σ : zS) : zS := if x2 < 0 then σ else (if (Int32.ofNat n1) ≤ x2 then σ else (u_X8_put_1 n1 q1 x2 x3 σ))
def p_X8_put (n1 : Nat) (q1 : Nat) (x2 : Int32) (x3 : Int32) (σ : zS) : Prop := ¬ x2 < 0 → (¬ (Int32.ofNat n1) ≤ x2 → vp_in x2 n1)
set_option maxRecDepth 100000 in
set_option maxHeartbeats 1000000 in
theorem c_X8_put {cp : Nat → Bool} {nx : Nat} (n1 : Nat) (q1 : Nat) (x2 : Int32) (x3 : Int32) (σ : zS) (hp : p_X8_put n1 q1 x2 x3 σ) : zCl 1 cp nx cp nx 141 [.inr (20, n1, q1), .inl x2, .inl x3] σ (fun v σ1 => v = none ∧ σ1 = s_X8_put n1 q1 x2 x3 σ) := by
  refine zmeth (cd := kX8_put) [] 1000 (Nat.le_of_ble_eq_true rfl) rfl okX8_put (Nat.le_refl _) (Nat.le_of_ble_eq_true rfl) ?_
  refine And.intro (fun (h1 : x2 < 0) => ?_) (fun (h1 : ¬ x2 < 0) => ?_)
  · exact And.intro rfl (And.intro rfl ⟨rfl, by rw [s_X8_put, if_pos h1] <;> rfl⟩)
  · refine And.intro (fun (h2 : (Int32.ofNat n1) ≤ x2) => ?_) (fun (h2 : ¬ (Int32.ofNat n1) ≤ x2) => ?_)
    · exact And.intro rfl (And.intro rfl ⟨rfl, by rw [s_X8_put, if_neg h1, if_pos h2] <;> rfl⟩)
    · refine And.intro ((hp h1) h2) ?_
      exact And.intro rfl (And.intro rfl ⟨rfl, by rw [s_X8_put, if_neg h1, if_neg h2] <;> rfl⟩)
def f_X8_handlerCanBe (x1 : Int32) (x2 : Int32) : Int32 := if x1 = 0 then 1 else (if x1 = 1 then (if x2 < 1 then 0 else (if 8 < x2 then 0 else 1)) else (if x1 = 2 then 1 else (if x1 = 3 then (if x2 < 1 then 0 else (if 16 < x2 then 0 else 1)) else 0)))
set_option maxRecDepth 100000 in
set_option maxHeartbeats 1000000 in
theorem c_X8_handlerCanBe {cp : Nat → Bool} {nx : Nat} (x1 : Int32) (x2 : Int32) (σ : zS) : zCl 1 cp nx cp nx 142 [.inl x1, .inl x2] σ (fun v σ1 => v = some (.inl (f_X8_handlerCanBe x1 x2)) ∧ σ1 = σ) := by
  refine zmeth (cd := kX8_handlerCanBe) [] 1000 (Nat.le_of_ble_eq_true rfl) rfl okX8_handlerCanBe (Nat.le_refl _) (Nat.le_of_ble_eq_true rfl) ?_
  refine And.intro (fun (h1 : x1 = 0) => ?_) (fun (h1 : ¬ x1 = 0) => ?_)
  · exact And.intro rfl (And.intro rfl (And.intro (Or.inr rfl) ⟨by rw [f_X8_handlerCanBe, if_pos h1] <;> rfl, rfl⟩))
  · refine And.intro (fun (h2 : x1 = 1) => ?_) (fun (h2 : ¬ x1 = 1) => ?_)
    · refine And.intro (fun (h3 : x2 < 1) => ?_) (fun (h3 : ¬ x2 < 1) => ?_)
      · exact And.intro rfl (And.intro rfl (And.intro (Or.inl rfl) ⟨by rw [f_X8_handlerCanBe, if_neg h1, if_pos h2, if_pos h3] <;> rfl, rfl⟩))
      · refine And.intro (fun (h4 : 8 < x2) => ?_) (fun (h4 : ¬ 8 < x2) => ?_)
        · exact And.intro rfl (And.intro rfl (And.intro (Or.inl rfl) ⟨by rw [f_X8_handlerCanBe, if_neg h1, if_pos h2, if_neg h3, if_pos h4] <;> rfl, rfl⟩))
        · exact And.intro rfl (And.intro rfl (And.intro (Or.inr rfl) ⟨by rw [f_X8_handlerCanBe, if_neg h1, if_pos h2, if_neg h3, if_neg h4] <;> rfl, rfl⟩))
    · refine And.intro (fun (h5 : x1 = 2) => ?_) (fun (h5 : ¬ x1 = 2) => ?_)
      · exact And.intro rfl (And.intro rfl (And.intro (Or.inr rfl) ⟨by rw [f_X8_handlerCanBe, if_neg h1, if_neg h2, if_pos h5] <;> rfl, rfl⟩))
      · refine And.intro (fun (h6 : x1 = 3) => ?_) (fun (h6 : ¬ x1 = 3) => ?_)
        · refine And.intro (fun (h7 : x2 < 1) => ?_) (fun (h7 : ¬ x2 < 1) => ?_)
          · exact And.intro rfl (And.intro rfl (And.intro (Or.inl rfl) ⟨by rw [f_X8_handlerCanBe, if_neg h1, if_neg h2, if_neg h5, if_pos h6, if_pos h7] <;> rfl, rfl⟩))
          · refine And.intro (fun (h8 : 16 < x2) => ?_) (fun (h8 : ¬ 16 < x2) => ?_)
            · exact And.intro rfl (And.intro rfl (And.intro (Or.inl rfl) ⟨by rw [f_X8_handlerCanBe, if_neg h1, if_neg h2, if_neg h5, if_pos h6, if_neg h7, if_pos h8] <;> rfl, rfl⟩))
            · exact And.intro rfl (And.intro rfl (And.intro (Or.inr rfl) ⟨by rw [f_X8_handlerCanBe, if_neg h1, if_neg h2, if_neg h5, if_pos h6, if_neg h7, if_neg h8] <;> rfl, rfl⟩))
        · exact And.intro rfl (And.intro rfl (And.intro (Or.inl rfl) ⟨by rw [f_X8_handlerCanBe, if_neg h1, if_neg h2, if_neg h5, if_neg h6] <;> rfl, rfl⟩))
theorem b_X8_handlerCanBe {x1 : Int32} {x2 : Int32} : f_X8_handlerCanBe x1 x2 = 0 ∨ f_X8_handlerCanBe x1 x2 = 1 := by
  unfold f_X8_handlerCanBe
  (repeat' split) <;> first | exact Or.inl rfl | exact Or.inr rfl
