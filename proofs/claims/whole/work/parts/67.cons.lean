/-! objects become complete: their fields for good lie where they will stay -/
theorem zfv_cp {G : zG} {cp cp1 : Nat → Bool} {σ : zS} {a c k : Nat} (h : cp1 a = cp a ∨ ((zfk c k).1 = 1 → σ.2 a k = a + (zfk c k).2.2.2 + 1)) : zfv G cp1 σ a c k = zfv G cp σ a c k := by
  rcases h with h | h
  · simp only [zfv, h]
  · unfold zfv
    generalize hz : (zfk c k).1 = z at h
    match z, h with
    | 0, _ => rfl
    | 1, h =>
      have e := h rfl
      have e1 : va_rf (zrf G (σ.2 a k)) = .ref (zrho G (a + (zfk c k).2.2.2)) := by rw [e]; rfl
      simp only [e1]
      cases cp1 a <;> cases cp a <;> rfl
    | z + 2, _ => rfl
theorem zRep.complete {G : zG} {cp cp1 : Nat → Bool} {nx : Nat} {σ : zS} {H : Heap} (hR : zRep G cp nx σ H) (h : ∀ a, a < nx → cp1 a = cp a ∨ ∀ k, (zfk (zlay a).1 k).1 = 1 → (σ.2 a k = a + (zfk (zlay a).1 k).2.2.2 + 1 ∧ a + (zfk (zlay a).1 k).2.2.2 < nx)) : zRep G cp1 nx σ H := by
  have hw : zws G cp1 σ nx = zws G cp σ nx := by
    unfold zws
    apply List.map_congr_left
    intro a ha
    have ha := List.mem_range.mp ha
    have hf : zfv G cp1 σ a (zlay a).1 = zfv G cp σ a (zlay a).1 := by
      funext k
      refine zfv_cp ?_
      rcases h a ha with h1 | h1
      · exact Or.inl h1
      · exact Or.inr (fun q => (h1 k q).1)
    simp only [zenc, hf]
  refine ⟨hR.1, hR.2.1, by rw [hw]; exact hR.2.2.1, hR.2.2.2.1, fun a k ha hc hk => ?_, hR.2.2.2.2.2⟩
  rcases h a ha with h1 | h1
  · exact hR.2.2.2.2.1 a k ha (by rw [← h1]; exact hc) hk
  · exact (h1 k hk).2
theorem zWp.complete {d nxE y nx pc : Nat} {cpE cp cp1 : Nat → Bool} {Q : zQ} {ls : List (Option zV)} {st : List zV} {σ : zS} (hc : ∀ a, a < nx → cp1 a = cp a ∨ ∀ k, (zfk (zlay a).1 k).1 = 1 → (σ.2 a k = a + (zfk (zlay a).1 k).2.2.2 + 1 ∧ a + (zfk (zlay a).1 k).2.2.2 < nx)) (h : zWp d cpE nxE y Q cp1 nx pc ls st σ) : zWp d cpE nxE y Q cp nx pc ls st σ := by
  intro G nx0 p l e R s m args below meth c Qm hC hEnd h0 hE H locs lsA hR hL hs hS
  exact h G nx0 p l e R s m args below meth c Qm hC hEnd h0 hE H locs lsA (hR.complete hc) hL hs hS
