/-! the law's loop -/
section IS
variable {L i U N k : Nat} {σ : zS}
theorem lw_lt (hL : L ≤ 3584) (hi : i ≤ 4000) : nI L - 7 < nI i ∨ i + 7 ≤ L := by
  by_cases c : 7 ≤ L
  · by_cases c1 : i + 7 ≤ L
    · exact Or.inr c1
    · left
      rw [(show (7 : Int32) = nI 7 from rfl), pk_sub c]
      exact nI_lt (by omega) (by omega)
  · left
    have h0 : nI L - 7 < nI 0 := by
      rcases (show L = 0 ∨ L = 1 ∨ L = 2 ∨ L = 3 ∨ L = 4 ∨ L = 5 ∨ L = 6 by omega) with rfl | rfl | rfl | rfl | rfl | rfl | rfl <;> decide
    exact Int32.lt_of_lt_of_le h0 (nI_le (by omega) (by omega))
set_option maxRecDepth 100000 in
set_option maxHeartbeats 1000000 in
theorem lw_1137 (h18 : ∀ σ, LWs U σ → zWp 200 zall 501 309 lwQ zall 501 18 (lwL L (7 * (k + 1))) [] σ) : lwN L (7 * k) U := fun σ h => by
  refine zvc_sound (cd := kL_law) (cs := [18]) rfl okL_law 1000 _ _ 1137 (zseek kL_law 1137) _ _ _ zseek_sub ?_
  have e : nI (7 * k) + 7 = nI (7 * (k + 1)) := nI_add (7 * k) 7
  have g := h18 σ h
  unfold lwL at g
  rw [← e] at g
  exact g
set_option maxRecDepth 100000 in
set_option maxHeartbeats 4000000 in
theorem lw_step (hL : L ≤ 3584) (hN : 200000 < N) (hk : k ≤ 513) (h : LWs (500 * k) σ) (hn : 7 * k + 7 ≤ L → ∀ σ, LWs (500 * k + 500) σ → zWp 200 zall 501 309 lwQ zall 501 18 (lwL L (7 * (k + 1))) [] σ) : zWp 200 zall 501 309 lwQ zall 501 18 (lwL L (7 * k)) [] σ := by
  refine zvc_sound (cd := kL_law) (cs := [172, 235, 258, 271, 294, 317, 350, 383, 406, 429, 442, 455, 488, 511, 544, 577, 620, 653, 716, 791, 824, 877, 910, 933, 976, 999, 1022, 1055, 1068, 1091, 1114, 1137]) rfl okL_law 1000 _ _ 18 (zseek kL_law 18) _ _ _ zseek_sub ?_
  refine And.intro (fun _ => ?_) (fun (hlt : ¬ (Int32.ofNat L - 7 < nI (7 * k))) => ?_)
  · exact And.intro rfl (And.intro rfl (And.intro (Or.inr rfl) rfl))
  · have h7 : 7 * k + 7 ≤ L := by
      rcases lw_lt (L := L) (i := 7 * k) hL (by omega) with y | y
      · exact absurd y hlt
      · exact y
    have vv : ∀ j, j < 7 → vp_in (nI (7 * k) + nI j) L := fun j hj => by
      rw [nI_add]
      exact vp_in_nI (by omega) (by omega)
    have hv : lwV L (7 * k) := ⟨vv 1 (by omega), vv 2 (by omega), vv 3 (by omega), vv 4 (by omega), vv 5 (by omega), vv 6 (by omega), trivial⟩
    have hx : lwN L (7 * k) (500 * k + 500) := lw_1137 (hn h7)
    have hU : 500 * k ≤ 299000 := by omega
    refine And.intro (vp_in_nI (by omega) (by omega)) ?_
    exact And.intro (fun _ => lc_0 hv hN hU h hx) (fun _ => And.intro (fun _ => lc_1 hv hN hU h hx) (fun _ => And.intro (fun _ => lc_2 hv hN hU h hx) (fun _ => And.intro (fun _ => lc_3 hv hN hU h hx) (fun _ => And.intro (fun _ => lc_4 hv hN hU h hx) (fun _ => And.intro (fun _ => lc_5 hv hN hU h hx) (fun _ => And.intro (fun _ => lc_6 hv hN hU h hx) (fun _ => And.intro (fun _ => lc_7 hv hN hU h hx) (fun _ => And.intro (fun _ => lc_8 hv hN hU h hx) (fun _ => And.intro (fun _ => lc_9 hv hN hU h hx) (fun _ => And.intro (fun _ => lc_10 hv hN hU h hx) (fun _ => And.intro (fun _ => lc_11 hv hN hU h hx) (fun _ => And.intro (fun _ => lc_12 hv hN hU h hx) (fun _ => And.intro (fun _ => lc_13 hv hN hU h hx) (fun _ => And.intro (fun _ => lc_14 hv hN hU h hx) (fun _ => And.intro (fun _ => lc_15 hv hN hU h hx) (fun _ => And.intro (fun _ => lc_16 hv hN hU h hx) (fun _ => And.intro (fun _ => lc_17 hv hN hU h hx) (fun _ => And.intro (fun _ => lc_18 hv hN hU h hx) (fun _ => And.intro (fun _ => lc_19 hv hN hU h hx) (fun _ => And.intro (fun _ => lc_20 hv hN hU h hx) (fun _ => And.intro (fun _ => lc_21 hv hN hU h hx) (fun _ => And.intro (fun _ => lc_22 hv hN hU h hx) (fun _ => And.intro (fun _ => lc_23 hv hN hU h hx) (fun _ => And.intro (fun _ => lc_24 hv hN hU h hx) (fun _ => And.intro (fun _ => lc_25 hv hN hU h hx) (fun _ => And.intro (fun _ => lc_26 hv hN hU h hx) (fun _ => And.intro (fun _ => lc_27 hv hN hU h hx) (fun _ => And.intro (fun _ => lc_28 hv hN hU h hx) (fun _ => And.intro (fun _ => lc_29 hv hN hU h hx) (fun _ => And.intro (fun _ => lc_30 hv hN hU h hx) (fun _ => hx σ (h.up (by omega)))))))))))))))))))))))))))))))))
theorem lw_loop (hL : L ≤ 3584) (hN : 200000 < N) : ∀ (r k : Nat) (σ : zS), k + r = 513 → LWs (500 * k) σ → zWp 200 zall 501 309 lwQ zall 501 18 (lwL L (7 * k)) [] σ := by
  intro r
  induction r with
  | zero => exact fun k σ hk h => lw_step hL hN (by omega) h (fun y => absurd y (by omega))
  | succ r ih => exact fun k σ hk h => lw_step hL hN (by omega) h (fun _ σ1 h1 => ih (k + 1) σ1 (by omega) h1)
end IS
