/-! the reference's unit: how it ends -/
section IS
variable {nb N b : Nat} {tx : Nat → Nat} {σ τ τ1 : zS}
theorem ru_leaf {u z : Nat} {v5 v6 o x : Int32} (h0 : τ.1 468 25 = 0) (hb : b < 2) (hu : τ.1 478 b = nI u) (ho : (τ.1 468 22 = 3 ∧ o = 0 ∧ x = τ.1 468 23) ∨ (¬ τ.1 468 22 = 3 ∧ o = 1 ∧ x = v6)) (hl : p_X9_lay (nI b) o x (zuI τ 478 b (nI (u + 1)))) (hs : p_X9_scan N (zuI (s_X9_lay (nI b) o x (zuI τ 478 b (nI (u + 1)))) 468 39 2)) (h39 : (s_X9_scan N (zuI (s_X9_lay (nI b) o x (zuI τ 478 b (nI (u + 1)))) 468 39 2)).1 468 39 = 2) (hm : p_X9_closeMinus (nI b) N (s_X9_scan N (zuI (s_X9_lay (nI b) o x (zuI τ 478 b (nI (u + 1)))) 468 39 2))) : q_X9_readUnit N (z + 1 + 1) 7 (nI b) 0 0 0 v5 v6 τ ∧ l_X9_readUnit N (z + 1 + 1) 7 (nI b) 0 0 0 v5 v6 τ = s_X9_closeMinus (nI b) N (s_X9_scan N (zuI (s_X9_lay (nI b) o x (zuI τ 478 b (nI (u + 1)))) 468 39 2)) := by
  have cb : (nI b).toNatClampNeg = b := nI_clamp (by omega)
  have vb : vp_in (nI b) 2 := vp_in_nI hb (by decide)
  have z0 : (0 : Int32) ≤ 0 := by decide
  have e1 : u_X9_readUnit_h7_1 N (nI b) 0 0 0 v5 v6 τ = zuI τ 478 b (nI (u + 1)) := by
    unfold u_X9_readUnit_h7_1
    rw [cb, hu, nI_1]
  have t22 : (zuI τ 478 b (nI (u + 1))).1 468 22 = τ.1 468 22 := gI_n (by omega)
  have t23 : (zuI τ 478 b (nI (u + 1))).1 468 23 = τ.1 468 23 := gI_n (by omega)
  have l9 : ∀ τ2, τ2 = zuI (s_X9_lay (nI b) o x (zuI τ 478 b (nI (u + 1)))) 468 39 2 → q_X9_readUnit N (z + 1) 9 (nI b) 0 0 0 v5 v6 τ2 ∧ l_X9_readUnit N (z + 1) 9 (nI b) 0 0 0 v5 v6 τ2 = s_X9_closeMinus (nI b) N (s_X9_scan N (zuI (s_X9_lay (nI b) o x (zuI τ 478 b (nI (u + 1)))) 468 39 2)) := fun τ2 e => by
    subst e
    have e9 : u_X9_readUnit_h9_1 N (nI b) 0 0 0 v5 v6 (zuI (s_X9_lay (nI b) o x (zuI τ 478 b (nI (u + 1)))) 468 39 2) = s_X9_scan N (zuI (s_X9_lay (nI b) o x (zuI τ 478 b (nI (u + 1)))) 468 39 2) := rfl
    have e92 : u_X9_readUnit_h9_2 N (nI b) 0 0 0 v5 v6 (zuI (s_X9_lay (nI b) o x (zuI τ 478 b (nI (u + 1)))) 468 39 2) = s_X9_closeMinus (nI b) N (s_X9_scan N (zuI (s_X9_lay (nI b) o x (zuI τ 478 b (nI (u + 1)))) 468 39 2)) := rfl
    rw [q_X9_readUnit, l_X9_readUnit, e9, e92, if_pos h39]
    exact ⟨⟨hs, fun _ => hm⟩, rfl⟩
  rw [q_X9_readUnit, l_X9_readUnit, h0, if_pos z0, if_pos rfl, if_pos rfl, if_pos rfl, e1, t22]
  rcases ho with ⟨k, rfl, rfl⟩ | ⟨k, rfl, rfl⟩
  · have e8 : u_X9_readUnit_h7_9 N (nI b) 0 0 0 v5 v6 τ = zuI (s_X9_lay (nI b) 0 (τ.1 468 23) (zuI τ 478 b (nI (u + 1)))) 468 39 2 := by
      unfold u_X9_readUnit_h7_9 u_X9_readUnit_h7_8
      rw [e1, t23]
    obtain ⟨y1, y2⟩ := l9 _ e8
    rw [if_pos k, if_pos k, y2]
    refine ⟨fun _ => ⟨vb, fun y => absurd rfl y, fun _ => ⟨fun _ => ⟨fun _ => ⟨fun y => absurd k y, fun _ => ⟨fun y => absurd k y, fun _ => ⟨?_, y1⟩⟩⟩, fun y => absurd rfl y⟩, fun y => absurd rfl y⟩⟩, rfl⟩
    rw [t23]
    exact hl
  · have e8 : u_X9_readUnit_h7_3 N (nI b) 0 0 0 v5 x τ = zuI (s_X9_lay (nI b) 1 x (zuI τ 478 b (nI (u + 1)))) 468 39 2 := by
      unfold u_X9_readUnit_h7_3 u_X9_readUnit_h7_2
      rw [e1]
    obtain ⟨y1, y2⟩ := l9 _ e8
    rw [if_neg k, if_neg k, y2]
    exact ⟨fun _ => ⟨vb, fun y => absurd rfl y, fun _ => ⟨fun _ => ⟨fun _ => ⟨fun _ => ⟨fun _ => ⟨hl, y1⟩, fun y => absurd y k⟩, fun y => absurd y k⟩, fun y => absurd rfl y⟩, fun y => absurd rfl y⟩⟩, rfl⟩
theorem ru_open {u d z : Nat} {v2 v3 v5 v6 : Int32} {o sg : Nat} (h0 : τ.1 468 25 = 0) (hb : b < 2) (hu : τ.1 478 b = nI u) (hv : (v2 = 1 ∧ v3 = 0 ∧ o = 104 ∧ sg = 0) ∨ (v2 = 0 ∧ v3 = 1 ∧ o = 7 ∧ sg = 1)) (hp : p_X9_push (nI o) 0 0 (zuI τ 478 b (nI (u + 1)))) (hd : (s_X9_push (nI o) 0 0 (zuI τ 478 b (nI (u + 1)))).1 468 38 = nI d) (hs : p_X9_scan N (zuI (zuI (s_X9_push (nI o) 0 0 (zuI τ 478 b (nI (u + 1)))) 468 38 (nI (d + 1))) 468 39 (nI sg))) (h39 : ¬ (s_X9_scan N (zuI (zuI (s_X9_push (nI o) 0 0 (zuI τ 478 b (nI (u + 1)))) 468 38 (nI (d + 1))) 468 39 (nI sg))).1 468 39 = 2) : q_X9_readUnit N (z + 1 + 1 + 1) 7 (nI b) v2 v3 0 v5 v6 τ ∧ l_X9_readUnit N (z + 1 + 1 + 1) 7 (nI b) v2 v3 0 v5 v6 τ = s_X9_scan N (zuI (zuI (s_X9_push (nI o) 0 0 (zuI τ 478 b (nI (u + 1)))) 468 38 (nI (d + 1))) 468 39 (nI sg)) := by
  have n10 : ¬ (1 : Int32) = 0 := by decide
  have cb : (nI b).toNatClampNeg = b := nI_clamp (by omega)
  have vb : vp_in (nI b) 2 := vp_in_nI hb (by decide)
  have z0 : (0 : Int32) ≤ 0 := by decide
  have e1 : u_X9_readUnit_h7_1 N (nI b) v2 v3 0 v5 v6 τ = zuI τ 478 b (nI (u + 1)) := by
    unfold u_X9_readUnit_h7_1
    rw [cb, hu, nI_1]
  have l9 : ∀ τ2, τ2 = zuI (zuI (s_X9_push (nI o) 0 0 (zuI τ 478 b (nI (u + 1)))) 468 38 (nI (d + 1))) 468 39 (nI sg) → q_X9_readUnit N (z + 1) 9 (nI b) v2 v3 0 v5 v6 τ2 ∧ l_X9_readUnit N (z + 1) 9 (nI b) v2 v3 0 v5 v6 τ2 = s_X9_scan N τ2 := fun τ2 e => by
    subst e
    have e9 : u_X9_readUnit_h9_1 N (nI b) v2 v3 0 v5 v6 (zuI (zuI (s_X9_push (nI o) 0 0 (zuI τ 478 b (nI (u + 1)))) 468 38 (nI (d + 1))) 468 39 (nI sg)) = s_X9_scan N (zuI (zuI (s_X9_push (nI o) 0 0 (zuI τ 478 b (nI (u + 1)))) 468 38 (nI (d + 1))) 468 39 (nI sg)) := rfl
    rw [q_X9_readUnit, l_X9_readUnit, e9, if_neg h39]
    exact ⟨⟨hs, fun y => absurd y h39⟩, rfl⟩
  rcases hv with ⟨rfl, rfl, rfl, rfl⟩ | ⟨rfl, rfl, rfl, rfl⟩
  · have e8 : u_X9_readUnit_h8_8 N (nI b) 1 0 0 v5 v6 (zuI τ 478 b (nI (u + 1))) = zuI (zuI (s_X9_push (nI 104) 0 0 (zuI τ 478 b (nI (u + 1)))) 468 38 (nI (d + 1))) 468 39 (nI 0) := by
      unfold u_X9_readUnit_h8_8 u_X9_readUnit_h8_6 u_X9_readUnit_h8_5
      have : s_X9_push 104 0 0 (zuI τ 478 b (nI (u + 1))) = s_X9_push (nI 104) 0 0 (zuI τ 478 b (nI (u + 1))) := rfl
      rw [this, hd, nI_1]
      rfl
    obtain ⟨y1, y2⟩ := l9 _ e8
    have q8 : q_X9_readUnit N (z + 1 + 1) 8 (nI b) 1 0 0 v5 v6 (zuI τ 478 b (nI (u + 1))) ∧ l_X9_readUnit N (z + 1 + 1) 8 (nI b) 1 0 0 v5 v6 (zuI τ 478 b (nI (u + 1))) = s_X9_scan N (zuI (zuI (s_X9_push (nI 104) 0 0 (zuI τ 478 b (nI (u + 1)))) 468 38 (nI (d + 1))) 468 39 (nI 0)) := by
      rw [q_X9_readUnit, l_X9_readUnit, if_neg n10, if_neg n10, y2, ← e8]
      exact ⟨⟨fun y => absurd y n10, fun _ => ⟨hp, fun y => absurd y n10, fun _ => y1⟩⟩, rfl⟩
    rw [q_X9_readUnit, l_X9_readUnit, h0, if_pos z0, if_neg n10, e1, q8.2]
    exact ⟨fun _ => ⟨vb, fun _ => q8.1, fun y => absurd y n10⟩, rfl⟩
  · have e8 : u_X9_readUnit_h8_3 N (nI b) 0 1 0 v5 v6 (zuI τ 478 b (nI (u + 1))) = zuI (zuI (s_X9_push (nI 7) 0 0 (zuI τ 478 b (nI (u + 1)))) 468 38 (nI (d + 1))) 468 39 (nI 1) := by
      unfold u_X9_readUnit_h8_3 u_X9_readUnit_h8_2 u_X9_readUnit_h8_1
      have : s_X9_push 7 0 0 (zuI τ 478 b (nI (u + 1))) = s_X9_push (nI 7) 0 0 (zuI τ 478 b (nI (u + 1))) := rfl
      rw [this, hd, nI_1]
      rfl
    obtain ⟨y1, y2⟩ := l9 _ e8
    have q8 : q_X9_readUnit N (z + 1 + 1) 8 (nI b) 0 1 0 v5 v6 (zuI τ 478 b (nI (u + 1))) ∧ l_X9_readUnit N (z + 1 + 1) 8 (nI b) 0 1 0 v5 v6 (zuI τ 478 b (nI (u + 1))) = s_X9_scan N (zuI (zuI (s_X9_push (nI 7) 0 0 (zuI τ 478 b (nI (u + 1)))) 468 38 (nI (d + 1))) 468 39 (nI 1)) := by
      rw [q_X9_readUnit, l_X9_readUnit, if_pos rfl, if_pos rfl, y2, ← e8]
      exact ⟨⟨fun _ => ⟨hp, fun _ => y1, fun y => absurd rfl y⟩, fun y => absurd rfl y⟩, rfl⟩
    rw [q_X9_readUnit, l_X9_readUnit, h0, if_pos z0, if_pos rfl, if_neg n10, e1, q8.2]
    exact ⟨fun _ => ⟨vb, fun y => absurd rfl y, fun _ => ⟨fun y => absurd y n10, fun _ => q8.1⟩⟩, rfl⟩
theorem ru_call {u d z : Nat} {v5 v6 : Int32} (h0 : τ.1 468 25 = 0) (hb : b < 2) (hu : τ.1 478 b = nI u) (hs0 : p_X9_scan N (zuI τ 478 b (nI (u + 1)))) (hp : p_X9_push (nI 105) v5 0 (s_X9_scan N (zuI τ 478 b (nI (u + 1))))) (hd : (s_X9_push (nI 105) v5 0 (s_X9_scan N (zuI τ 478 b (nI (u + 1))))).1 468 38 = nI d) (hs : p_X9_scan N (zuI (zuI (s_X9_push (nI 105) v5 0 (s_X9_scan N (zuI τ 478 b (nI (u + 1))))) 468 38 (nI (d + 1))) 468 39 0)) (h39 : ¬ (s_X9_scan N (zuI (zuI (s_X9_push (nI 105) v5 0 (s_X9_scan N (zuI τ 478 b (nI (u + 1))))) 468 38 (nI (d + 1))) 468 39 0)).1 468 39 = 2) : q_X9_readUnit N (z + 1 + 1) 7 (nI b) 0 0 1 v5 v6 τ ∧ l_X9_readUnit N (z + 1 + 1) 7 (nI b) 0 0 1 v5 v6 τ = s_X9_scan N (zuI (zuI (s_X9_push (nI 105) v5 0 (s_X9_scan N (zuI τ 478 b (nI (u + 1))))) 468 38 (nI (d + 1))) 468 39 0) := by
  have n10 : ¬ (1 : Int32) = 0 := by decide
  have cb : (nI b).toNatClampNeg = b := nI_clamp (by omega)
  have vb : vp_in (nI b) 2 := vp_in_nI hb (by decide)
  have z0 : (0 : Int32) ≤ 0 := by decide
  have e1 : u_X9_readUnit_h7_1 N (nI b) 0 0 1 v5 v6 τ = zuI τ 478 b (nI (u + 1)) := by
    unfold u_X9_readUnit_h7_1
    rw [cb, hu, nI_1]
  have e10 : u_X9_readUnit_h7_10 N (nI b) 0 0 1 v5 v6 τ = s_X9_scan N (zuI τ 478 b (nI (u + 1))) := by
    unfold u_X9_readUnit_h7_10
    rw [e1]
  have e13 : u_X9_readUnit_h7_13 N (nI b) 0 0 1 v5 v6 τ = zuI (zuI (s_X9_push (nI 105) v5 0 (s_X9_scan N (zuI τ 478 b (nI (u + 1))))) 468 38 (nI (d + 1))) 468 39 0 := by
    unfold u_X9_readUnit_h7_13 u_X9_readUnit_h7_12 u_X9_readUnit_h7_11
    rw [e10]
    have : s_X9_push 105 v5 0 (s_X9_scan N (zuI τ 478 b (nI (u + 1)))) = s_X9_push (nI 105) v5 0 (s_X9_scan N (zuI τ 478 b (nI (u + 1)))) := rfl
    rw [this, hd, nI_1]
  have e9 : u_X9_readUnit_h9_1 N (nI b) 0 0 1 v5 v6 (zuI (zuI (s_X9_push (nI 105) v5 0 (s_X9_scan N (zuI τ 478 b (nI (u + 1))))) 468 38 (nI (d + 1))) 468 39 0) = s_X9_scan N (zuI (zuI (s_X9_push (nI 105) v5 0 (s_X9_scan N (zuI τ 478 b (nI (u + 1))))) 468 38 (nI (d + 1))) 468 39 0) := rfl
  have l9 : q_X9_readUnit N (z + 1) 9 (nI b) 0 0 1 v5 v6 (zuI (zuI (s_X9_push (nI 105) v5 0 (s_X9_scan N (zuI τ 478 b (nI (u + 1))))) 468 38 (nI (d + 1))) 468 39 0) ∧ l_X9_readUnit N (z + 1) 9 (nI b) 0 0 1 v5 v6 (zuI (zuI (s_X9_push (nI 105) v5 0 (s_X9_scan N (zuI τ 478 b (nI (u + 1))))) 468 38 (nI (d + 1))) 468 39 0) = s_X9_scan N (zuI (zuI (s_X9_push (nI 105) v5 0 (s_X9_scan N (zuI τ 478 b (nI (u + 1))))) 468 38 (nI (d + 1))) 468 39 0) := by
    rw [q_X9_readUnit, l_X9_readUnit, e9, if_neg h39]
    exact ⟨⟨hs, fun y => absurd y h39⟩, rfl⟩
  rw [q_X9_readUnit, l_X9_readUnit, h0, if_pos z0, if_pos rfl, if_pos rfl, if_neg n10, e13, l9.2, e1, e10]
  exact ⟨fun _ => ⟨vb, fun y => absurd rfl y, fun _ => ⟨fun _ => ⟨fun y => absurd y n10, fun _ => ⟨hs0, hp, l9.1⟩⟩, fun y => absurd rfl y⟩⟩, rfl⟩
end IS
