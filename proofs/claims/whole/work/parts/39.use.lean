/-! from a place inside a method on: fewer locals known, a weaker end -/
def zle : List (Option zV) → List (Option zV) → Prop
  | [], [] => True
  | none :: a, _ :: b => zle a b
  | some v :: a, w :: b => w = some v ∧ zle a b
  | _, _ => False
theorem zle_at : ∀ (a b : List (Option zV)), zle a b → a.length = b.length ∧ ∀ (i : Nat) (v : zV), a[i]? = some (some v) → b[i]? = some (some v)
  | [], [], _ => ⟨rfl, fun i v h => by cases h⟩
  | none :: a, w :: b, h => by
    obtain ⟨h1, h2⟩ := zle_at a b h
    refine ⟨by simp [h1], fun i v hi => ?_⟩
    cases i with
    | zero => cases hi
    | succ i => exact h2 i v hi
  | some u :: a, w :: b, h => by
    obtain ⟨h1, h2⟩ := zle_at a b h.2
    refine ⟨by simp [h1], fun i v hi => ?_⟩
    cases i with
    | zero => cases hi; exact congrArg some h.1
    | succ i => exact h2 i v hi
theorem zWp.use {d nxE y nx pc : Nat} {cpE cp : Nat → Bool} {Q1 Q : zQ} {ls1 ls : List (Option zV)} {st : List zV} {σ : zS} (h : zWp d cpE nxE y Q1 cp nx pc ls1 st σ) (hl : zle ls1 ls) (hq : ∀ v σ1, Q1 v σ1 → Q v σ1) : zWp d cpE nxE y Q cp nx pc ls st σ := by
  intro G nx0 p l e R s m args below meth c Qm hC hEnd h0 hE H locs lsA hR hL hs hS
  obtain ⟨e1, e2⟩ := zle_at _ _ hl
  exact h G nx0 p l e R s m args below meth c Qm hC (fun v σ1 pc1 ls2 hv hr => hEnd v σ1 pc1 ls2 (hq v σ1 hv) hr) h0 hE H locs lsA hR ⟨e1.trans hL.1, hL.2.1, hL.2.2.1, fun i v hi => hL.2.2.2 i v (e2 i v hi)⟩ hs hS
def f_X8_at26 (n1 q1 : Nat) (x2 : Int32) (σ : zS) : Int32 := if x2 < 0 then 0 else (if Int32.ofNat n1 ≤ x2 then 0 else (σ.1 q1 (x2).toNatClampNeg))
def p_X8_at26 (n1 q1 : Nat) (x2 : Int32) (σ : zS) : Prop := ¬ x2 < 0 → (¬ Int32.ofNat n1 ≤ x2 → vp_in x2 n1)
set_option maxRecDepth 100000 in
set_option maxHeartbeats 1000000 in
theorem c_X8_at26 {nx : Nat} (n1 q1 : Nat) (x2 : Int32) (σ : zS) (hp : p_X8_at26 n1 q1 x2 σ) : zCl 1 zall nx zall nx 140 [.inr (26, n1, q1), .inl x2] σ (fun v σ1 => v = some (.inl (f_X8_at26 n1 q1 x2 σ)) ∧ σ1 = σ) := by
  refine zmeth (cd := kX8_at) [] 1000 (Nat.le_of_ble_eq_true rfl) rfl okX8_at (Nat.le_refl _) (Nat.le_of_ble_eq_true rfl) ?_
  refine And.intro (fun (h1 : x2 < 0) => ?_) (fun (h1 : ¬ x2 < 0) => ?_)
  · exact And.intro rfl (And.intro rfl ⟨by rw [f_X8_at26, if_pos h1] <;> rfl, rfl⟩)
  · refine And.intro (fun (h2 : Int32.ofNat n1 ≤ x2) => ?_) (fun (h2 : ¬ Int32.ofNat n1 ≤ x2) => ?_)
    · exact And.intro rfl (And.intro rfl ⟨by rw [f_X8_at26, if_neg h1, if_pos h2] <;> rfl, rfl⟩)
    · refine And.intro (hp h1 h2) ?_
      exact And.intro rfl (And.intro rfl ⟨by rw [f_X8_at26, if_neg h1, if_neg h2] <;> rfl, rfl⟩)
