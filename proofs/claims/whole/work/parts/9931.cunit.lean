/-! the class's unit, by its token -/
section IS
variable {N q u d : Nat} {σ σ1 : zS} {P : Nat → Int32 → Int32 → zS → Prop} {G : Nat → Int32 → Int32 → zS → Int32 × zS}
/-- one unit too many -/
def tmU (u d : Nat) (σ : zS) : Prop := u = 80 ∨ 5 < d ∨ σ.1 3 3 = σ.1 2 6
theorem cu_split (hq : σ.2 2 1 = q + 1) (h8 : σ.1 q 8 = nI u) (u80 : u ≤ 80) (d9 : d ≤ 9) : (tmU u d σ → r_X3_readUnit G (nI d) N σ = l_X3_readUnit G N N 0 (nI d) 0 0 0 σ) ∧ (¬ tmU u d σ → r_X3_readUnit G (nI d) N σ = (if (σ.1 3 2) = 303 then ((G 4 (nI d) 0 σ).1, (G 4 (nI d) 0 σ).2) else (if (σ.1 3 2) = 302 then (l_X3_readUnit G N N 1 (nI d) 0 (σ.1 3 2) (σ.1 3 3) σ) else (if (σ.1 3 2) = 40 then (l_X3_readUnit G N N 1 (nI d) 0 (σ.1 3 2) (σ.1 3 3) σ) else (if (σ.1 3 2) = 45 then (l_X3_readUnit G N N 1 (nI d) 0 (σ.1 3 2) (σ.1 3 3) σ) else (0, (r_X3_refuseToken σ).2)))))) := by
  have eq : σ.2 2 1 - 1 = q := by rw [hq]; rfl
  unfold tmU r_X3_readUnit
  rw [eq, h8]
  have a1 : (80 : Int32) ≤ nI u ↔ u = 80 := by
    constructor
    · intro y
      apply Classical.byContradiction
      intro w
      exact nI_ge (b := 80) (show u < 80 by omega) (by decide) y
    · intro y
      rw [y]; decide
  have a2 : (5 : Int32) < nI d ↔ 5 < d := by
    constructor
    · intro y
      apply Classical.byContradiction
      intro w
      exact nI_nlt (a := 5) (b := d) (by omega) (by decide) y
    · intro y
      exact nI_lt (a := 5) y (by omega)
  refine ⟨fun c => ?_, fun c => ?_⟩
  · by_cases k1 : (80 : Int32) ≤ nI u
    · rw [if_pos k1]
    · rw [if_neg k1]
      by_cases k2 : (5 : Int32) < nI d
      · rw [if_pos k2]
      · rw [if_neg k2, if_pos]
        rcases c with c | c | c
        · exact absurd (a1.mpr c) k1
        · exact absurd (a2.mpr c) k2
        · exact c
  · rw [if_neg (fun y => c (Or.inl (a1.mp y))), if_neg (fun y => c (Or.inr (Or.inl (a2.mp y)))), if_neg (fun y => c (Or.inr (Or.inr y)))]
    rfl
theorem cu_psplit (hq : σ.2 2 1 = q + 1) (hl : zlay q = (2, 16)) (h8 : σ.1 q 8 = nI u) (u80 : u ≤ 80) (d9 : d ≤ 9) (h1 : tmU u d σ → q_X3_readUnit P G N N 0 (nI d) 0 0 0 σ) (h2 : ¬ tmU u d σ → ¬ σ.1 3 2 = 303 → (σ.1 3 2 = 302 ∨ σ.1 3 2 = 40 ∨ σ.1 3 2 = 45) → q_X3_readUnit P G N N 1 (nI d) 0 (σ.1 3 2) (σ.1 3 3) σ) (h3 : ¬ tmU u d σ → σ.1 3 2 = 303 → P 4 (nI d) 0 σ ∧ ((G 4 (nI d) 0 σ).1 = 0 ∨ (G 4 (nI d) 0 σ).1 = 1)) : p_X3_readUnit P G (nI d) N σ := by
  have eq : σ.2 2 1 - 1 = q := by rw [hq]; rfl
  unfold p_X3_readUnit
  rw [eq, h8]
  have a1 : (80 : Int32) ≤ nI u ↔ u = 80 := by
    constructor
    · intro y
      apply Classical.byContradiction
      intro w
      exact nI_ge (b := 80) (show u < 80 by omega) (by decide) y
    · intro y
      rw [y]; decide
  have a2 : (5 : Int32) < nI d ↔ 5 < d := by
    constructor
    · intro y
      apply Classical.byContradiction
      intro w
      exact nI_nlt (a := 5) (b := d) (by omega) (by decide) y
    · intro y
      exact nI_lt (a := 5) y (by omega)
  refine ⟨⟨by rw [hq]; omega, hl⟩, fun y => h1 (Or.inl (a1.mp y)), fun y1 => ⟨fun y => h1 (Or.inr (Or.inl (a2.mp y))), fun y2 => ⟨fun y3 => ?_, fun y => h1 (Or.inr (Or.inr y))⟩⟩⟩
  have c : ¬ tmU u d σ := fun w => by
    rcases w with w | w | w
    · exact y1 (a1.mpr w)
    · exact y2 (a2.mpr w)
    · exact y3 w
  exact ⟨fun y4 => ⟨fun y5 => h2 c y4 (Or.inl y5), fun _ => ⟨fun y5 => h2 c y4 (Or.inr (Or.inl y5)), fun _ y5 => h2 c y4 (Or.inr (Or.inr y5))⟩⟩, fun y4 => h3 c y4⟩
/-- what refusing leaves -/
theorem cl_ref {x y : Int32} : r_X3_refuse x y σ = (0, zuI (zuI σ 2 2 x) 2 3 y) := rfl
theorem cl_reft : r_X3_refuseToken σ = (0, zuI (zuI σ 2 2 1) 2 3 (σ.1 3 3)) := rfl
/-- no unit can begin with this token -/
theorem cu_bad {kd : Nat} (hq : σ.2 2 1 = q + 1) (hl : zlay q = (2, 16)) (h8 : σ.1 q 8 = nI u) (u80 : u ≤ 80) (d9 : d ≤ 9) (hk : σ.1 3 2 = nI kd) (k4 : kd < 400) (k1 : ¬ kd = 303) (k2 : ¬ kd = 302) (k3 : ¬ kd = 40) (k5 : ¬ kd = 45) (hN : 5 < N) : p_X3_readUnit P G (nI d) N σ ∧ r_X3_readUnit G (nI d) N σ = (0, zuI (zuI σ 2 2 1) 2 3 (σ.1 3 3)) := by
  obtain ⟨N1, rfl⟩ : ∃ z, N = z + 1 := ⟨N - 1, by omega⟩
  have n : ∀ c, c < 400 → ¬ kd = c → ¬ σ.1 3 2 = nI c := fun c hc y z => by
    rw [hk] at z
    exact y ((nI_eq (by omega) (by omega)).mp z)
  have n1 : ¬ σ.1 3 2 = 303 := n 303 (by decide) k1
  have n2 : ¬ σ.1 3 2 = 302 := n 302 (by decide) k2
  have n3 : ¬ σ.1 3 2 = 40 := n 40 (by decide) k3
  have n5 : ¬ σ.1 3 2 = 45 := n 45 (by decide) k5
  obtain ⟨s1, s2⟩ := cu_split (G := G) (N := N1 + 1) hq h8 u80 d9
  refine ⟨cu_psplit hq hl h8 u80 d9 (fun _ => ?_) (fun _ _ y => ?_) (fun _ y => absurd y n1), ?_⟩
  · rw [q_X3_readUnit]
    exact ⟨fun _ => ⟨fun y => absurd y n2, fun _ => ⟨fun y => absurd y n3, fun _ y => absurd y n5⟩⟩, fun y => absurd y n1⟩
  · rcases y with y | y | y
    · exact absurd y n2
    · exact absurd y n3
    · exact absurd y n5
  · by_cases c : tmU u d σ
    · rw [s1 c, l_X3_readUnit, if_neg n1, if_neg n2, if_neg n3, if_neg n5]
      rfl
    · rw [s2 c, if_neg n1, if_neg n2, if_neg n3, if_neg n5, cl_reft]
/-- a name -/
theorem cu_nam {kd : Nat} {x : Int32} (hq : σ.2 2 1 = q + 1) (hl : zlay q = (2, 16)) (h8 : σ.1 q 8 = nI u) (u80 : u ≤ 80) (d9 : d ≤ 9) (hk : σ.1 3 2 = 303) (hN : 5 < N) (hx : (tmU u d σ ∧ x = 1) ∨ (¬ tmU u d σ ∧ x = 0)) (hP : P 4 (nI d) x σ) (hG : (G 4 (nI d) x σ).1 = 0 ∨ (G 4 (nI d) x σ).1 = 1) : p_X3_readUnit P G (nI d) N σ ∧ r_X3_readUnit G (nI d) N σ = G 4 (nI d) x σ := by
  obtain ⟨N1, rfl⟩ : ∃ z, N = z + 1 := ⟨N - 1, by omega⟩
  obtain ⟨s1, s2⟩ := cu_split (G := G) (N := N1 + 1) hq h8 u80 d9
  rcases hx with ⟨c, rfl⟩ | ⟨c, rfl⟩
  · refine ⟨cu_psplit hq hl h8 u80 d9 (fun _ => ?_) (fun y => absurd c y) (fun y => absurd c y), ?_⟩
    · rw [q_X3_readUnit]
      exact ⟨fun y => absurd hk y, fun _ => ⟨hP, hG⟩⟩
    · rw [s1 c, l_X3_readUnit, if_pos hk]
      rfl
  · refine ⟨cu_psplit hq hl h8 u80 d9 (fun y => absurd y c) (fun _ y => absurd hk y) (fun _ _ => ⟨hP, hG⟩), ?_⟩
    rw [s2 c, if_pos hk]
end IS
