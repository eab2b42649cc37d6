/-! the class's unit: numbers, ( and - -/
section IS
variable {N q u d : Nat} {σ σ1 : zS} {P : Nat → Int32 → Int32 → zS → Prop} {G : Nat → Int32 → Int32 → zS → Int32 × zS}
theorem cl_rnum {v lo hi : Nat} (hk : σ.1 3 2 = 302) (h5 : σ.1 3 5 = nI v) (v4 : v ≤ 10000) (hi4 : hi ≤ 9999) (hlo : lo ≤ hi) : ((v < lo ∨ hi < v) → p_X3_readNumber (nI lo) (nI hi) N σ ∧ r_X3_readNumber (nI lo) (nI hi) N σ = (0, zuI (zuI σ 2 2 2) 2 3 (σ.1 3 3))) ∧ (lo ≤ v → v ≤ hi → (p_X6_next N (zuI σ 2 5 (nI v)) → p_X3_readNumber (nI lo) (nI hi) N σ) ∧ r_X3_readNumber (nI lo) (nI hi) N σ = (1, s_X6_next N (zuI σ 2 5 (nI v)))) := by
  have e2 : u_X3_readNumber_2 (nI lo) (nI hi) N σ = zuI σ 2 5 (nI v) := by
    unfold u_X3_readNumber_2
    rw [h5]
  refine ⟨fun c => ?_, fun c1 c2 => ?_⟩
  · unfold p_X3_readNumber r_X3_readNumber
    rw [if_pos hk, h5]
    by_cases k : v < lo
    · have k' : nI v < nI lo := nI_lt k (by omega)
      rw [if_pos k']
      exact ⟨fun _ y => absurd k' y, rfl⟩
    · have k' : ¬ nI v < nI lo := nI_nlt (by omega) (by omega)
      have k2 : ¬ nI v ≤ nI hi := nI_ge (by omega) (by omega)
      rw [if_neg k', if_neg k2]
      exact ⟨fun _ _ y => absurd y k2, rfl⟩
  · have k' : ¬ nI v < nI lo := nI_nlt (by omega) (by omega)
    have k2 : nI v ≤ nI hi := nI_le (by omega) (by omega)
    unfold p_X3_readNumber r_X3_readNumber
    rw [if_pos hk, h5, if_neg k', if_pos k2, e2]
    refine ⟨fun y _ _ _ => y, ?_⟩
    unfold u_X3_readNumber_3
    rw [e2]
theorem cu_num {v : Nat} (hq : σ.2 2 1 = q + 1) (hl : zlay q = (2, 16)) (h8 : σ.1 q 8 = nI u) (u80 : u ≤ 80) (d9 : d ≤ 9) (hk : σ.1 3 2 = 302) (h5 : σ.1 3 5 = nI v) (v4 : v ≤ 10000) (hN : 5 < N) (hn : p_X6_next N (zuI σ 2 5 (nI v))) (hf : rfr sTC (zuI σ 2 5 (nI v)) (s_X6_next N (zuI σ 2 5 (nI v)))) (hq3 : q = 16 ∨ q = 23) (he : p_X2_emit q 0 (nI v) (zuI (s_X6_next N (zuI σ 2 5 (nI v))) q 8 (nI (u + 1)))) : p_X3_readUnit P G (nI d) N σ ∧ (9999 < v → r_X3_readUnit G (nI d) N σ = (0, zuI (zuI σ 2 2 2) 2 3 (σ.1 3 3))) ∧ (v ≤ 9999 → tmU u d σ → r_X3_readUnit G (nI d) N σ = (0, zuI (zuI (s_X6_next N (zuI σ 2 5 (nI v))) 2 2 5) 2 3 (σ.1 3 3))) ∧ (v ≤ 9999 → ¬ tmU u d σ → r_X3_readUnit G (nI d) N σ = (1, (r_X2_emit q 0 (nI v) (zuI (s_X6_next N (zuI σ 2 5 (nI v))) q 8 (nI (u + 1)))).2)) := by
  obtain ⟨N1, hN1⟩ : ∃ z, N = z + 1 + 1 + 1 := ⟨N - 3, by omega⟩
  have n10 : ¬ (1 : Int32) = 0 := by decide
  have n1 : ¬ σ.1 3 2 = 303 := by rw [hk]; decide
  obtain ⟨s1, s2⟩ := cu_split (G := G) (N := N) hq h8 u80 d9
  obtain ⟨a1, a2⟩ := cl_rnum (N := N) (lo := 0) (hi := 9999) hk h5 v4 (by decide) (by decide)
  have e25 : (s_X6_next N (zuI σ 2 5 (nI v))).1 2 5 = nI v := (hf.2 _ _ (fun y => by unfold sTC at y; omega)).trans (gI_h rfl rfl)
  have e8 : (s_X6_next N (zuI σ 2 5 (nI v))).1 q 8 = nI u := (hf.2 _ _ (fun y => by unfold sTC at y; omega)).trans ((gI_n (by omega)).trans h8)
  have er : (s_X6_next N (zuI σ 2 5 (nI v))).2 2 1 - 1 = q := by rw [hf.1, gI_2, hq]; rfl
  have er0 : ((s_X6_next N (zuI σ 2 5 (nI v))).2 2 1 ≠ 0 ∧ zlay ((s_X6_next N (zuI σ 2 5 (nI v))).2 2 1 - 1) = (2, 16)) := by
    rw [er]
    exact ⟨by rw [hf.1, gI_2, hq]; omega, hl⟩
  -- the class's heads 1 and 2
  have H1 : ∀ (z : Nat) (x2 x4 : Int32), (9999 < v → q_X3_readUnit P G N (z + 1 + 1) 1 (nI d) x2 302 x4 σ ∧ l_X3_readUnit G N (z + 1 + 1) 1 (nI d) x2 302 x4 σ = (0, zuI (zuI σ 2 2 2) 2 3 (σ.1 3 3))) ∧ (v ≤ 9999 → q_X3_readUnit P G N (z + 1 + 1) 1 (nI d) x2 302 x4 σ ∧ l_X3_readUnit G N (z + 1 + 1) 1 (nI d) x2 302 x4 σ = (if x2 = 0 then (1, (r_X2_emit q 0 (nI v) (zuI (s_X6_next N (zuI σ 2 5 (nI v))) q 8 (nI (u + 1)))).2) else (0, zuI (zuI (s_X6_next N (zuI σ 2 5 (nI v))) 2 2 5) 2 3 x4))) := fun z x2 x4 => by
    refine ⟨fun c => ?_, fun c => ?_⟩
    · obtain ⟨b1, b2⟩ := a1 (Or.inr c)
      have b1 : p_X3_readNumber 0 9999 N σ := b1
      have b2 : r_X3_readNumber 0 9999 N σ = (0, zuI (zuI σ 2 2 2) 2 3 (σ.1 3 3)) := b2
      have eu : u_X3_readUnit_h1_1 G N (nI d) x2 302 x4 σ = zuI (zuI σ 2 2 2) 2 3 (σ.1 3 3) := by
        unfold u_X3_readUnit_h1_1
        rw [b2]
      rw [q_X3_readUnit, l_X3_readUnit, if_pos rfl, b2, if_pos rfl, eu]
      exact ⟨⟨fun y => absurd rfl y, fun _ => ⟨b1, fun y => absurd rfl y⟩⟩, rfl⟩
    · obtain ⟨b1, b2⟩ := a2 (by omega) c
      have b1 : p_X3_readNumber 0 9999 N σ := b1 hn
      have b2 : r_X3_readNumber 0 9999 N σ = (1, s_X6_next N (zuI σ 2 5 (nI v))) := b2
      have eu : u_X3_readUnit_h1_1 G N (nI d) x2 302 x4 σ = s_X6_next N (zuI σ 2 5 (nI v)) := by
        unfold u_X3_readUnit_h1_1
        rw [b2]
      have e21 : u_X3_readUnit_h2_1 G N (nI d) x2 302 x4 (s_X6_next N (zuI σ 2 5 (nI v))) = zuI (s_X6_next N (zuI σ 2 5 (nI v))) q 8 (nI (u + 1)) := by
        unfold u_X3_readUnit_h2_1
        rw [er, e8, nI_1]
      have e27 : u_X3_readUnit_h2_7 G N (nI d) x2 302 x4 (s_X6_next N (zuI σ 2 5 (nI v))) = (r_X2_emit q 0 (nI v) (zuI (s_X6_next N (zuI σ 2 5 (nI v))) q 8 (nI (u + 1)))).2 := by
        unfold u_X3_readUnit_h2_7
        rw [e21, gI_2, er, gI_n (by omega), e25]
      have h2 : q_X3_readUnit P G N (z + 1) 2 (nI d) x2 302 x4 (s_X6_next N (zuI σ 2 5 (nI v))) := by
        rw [q_X3_readUnit, e21]
        refine fun _ => ⟨er0, fun y => absurd rfl y, fun _ => ⟨by rw [gI_2]; exact er0, ?_⟩⟩
        rw [gI_2, er, gI_n (by omega), e25]
        exact he
      have l2 : l_X3_readUnit G N (z + 1) 2 (nI d) x2 302 x4 (s_X6_next N (zuI σ 2 5 (nI v))) = (if x2 = 0 then (1, (r_X2_emit q 0 (nI v) (zuI (s_X6_next N (zuI σ 2 5 (nI v))) q 8 (nI (u + 1)))).2) else (0, zuI (zuI (s_X6_next N (zuI σ 2 5 (nI v))) 2 2 5) 2 3 x4)) := by
        rw [l_X3_readUnit, if_pos rfl, e27]
        rfl
      rw [q_X3_readUnit, l_X3_readUnit, if_pos rfl, b2, if_neg n10, eu, l2]
      exact ⟨⟨fun y => absurd rfl y, fun _ => ⟨b1, fun _ => h2⟩⟩, rfl⟩
  have Q1 : ∀ (z : Nat) (x2 x4 : Int32), q_X3_readUnit P G N (z + 1 + 1) 1 (nI d) x2 302 x4 σ := fun z x2 x4 => by
    by_cases c : 9999 < v
    · exact ((H1 z x2 x4).1 c).1
    · exact ((H1 z x2 x4).2 (by omega)).1
  -- head 0
  have l0 : l_X3_readUnit G N N 0 (nI d) 0 0 0 σ = l_X3_readUnit G N (N1 + 1 + 1) 1 (nI d) 1 302 (σ.1 3 3) σ := by
    have : l_X3_readUnit G N N 0 (nI d) 0 0 0 σ = l_X3_readUnit G N (N1 + 1 + 1 + 1) 0 (nI d) 0 0 0 σ := by rw [← hN1]
    rw [this, l_X3_readUnit, if_neg n1, if_pos hk, hk]
  have l1 : l_X3_readUnit G N N 1 (nI d) 0 302 (σ.1 3 3) σ = l_X3_readUnit G N (N1 + 1 + 1 + 1) 1 (nI d) 0 302 (σ.1 3 3) σ := by rw [← hN1]
  refine ⟨cu_psplit hq hl h8 u80 d9 (fun _ => ?_) (fun _ _ _ => ?_) (fun _ y => absurd y n1), fun c => ?_, fun c t => ?_, fun c t => ?_⟩
  · have : q_X3_readUnit P G N (N1 + 1 + 1 + 1) 0 (nI d) 0 0 0 σ := by
      rw [q_X3_readUnit, hk]
      exact ⟨fun _ => ⟨fun _ => Q1 N1 1 (σ.1 3 3), fun y => absurd rfl y⟩, fun y => absurd y (by decide)⟩
    rw [← hN1] at this
    exact this
  · have := Q1 (N1 + 1) 0 (σ.1 3 3)
    rw [← hN1] at this
    rw [hk]
    exact this
  · by_cases t : tmU u d σ
    · rw [s1 t, l0]
      exact ((H1 N1 1 _).1 c).2
    · rw [s2 t, if_neg n1, if_pos hk, hk, l1]
      exact ((H1 (N1 + 1) 0 _).1 c).2
  · rw [s1 t, l0, ((H1 N1 1 _).2 c).2, if_neg n10]
  · rw [s2 t, if_neg n1, if_pos hk, hk, l1, ((H1 (N1 + 1) 0 _).2 c).2, if_pos rfl]
end IS
