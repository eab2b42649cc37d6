/-! the law's calls, one by one -/
section IS
variable {L i U N : Nat} {σ : zS}
abbrev lwQ : zQ := fun v _ => v = some (.inl 1)
abbrev lwL (L i : Nat) : List (Option zV) := [some (.inr (26, L, 1000003)), some (.inr (8, 16, 0)), some (.inr (9, 57, 468)), some (.inl (nI i))]
def lwN (L i U : Nat) : Prop := ∀ σ, LWs U σ → zWp 200 zall 501 309 lwQ zall 501 1137 (lwL L i) [] σ
def lwV (L i : Nat) : Prop := vp_in (nI i + 1) L ∧ vp_in (nI i + 2) L ∧ vp_in (nI i + 3) L ∧ vp_in (nI i + 4) L ∧ vp_in (nI i + 5) L ∧ vp_in (nI i + 6) L ∧ True
set_option maxRecDepth 100000 in
set_option maxHeartbeats 1000000 in
theorem lc_0 (hv : lwV L i) (hN : 200000 < N) (hU : U ≤ 299000) (h : LWs U σ) (hk : lwN L i (U + 500)) : zWp 200 zall 501 309 lwQ zall 501 172 (lwL L i) [] σ := by
  obtain ⟨k1, k2, k3, k4, k5⟩ := pr2_use h (fun τ h => pr_feed (N := N) (x1 := σ.1 1000003 (nI i + 1).toNatClampNeg) (x2 := σ.1 1000003 (nI i + 2).toNatClampNeg) (x3 := σ.1 1000003 (nI i + 3).toNatClampNeg) (x4 := σ.1 1000003 (nI i + 4).toNatClampNeg) (x5 := σ.1 1000003 (nI i + 5).toNatClampNeg) h hN)
  have k5 := k5.up (show U ≤ U + 500 by omega)
  refine zvc_sound (cd := kL_law) (cs := [1137]) rfl okL_law 1000 _ _ 172 (zseek kL_law 172) _ _ _ zseek_sub ?_
  refine And.intro hv.1 (And.intro hv.2.1 (And.intro hv.2.2.1 (And.intro hv.2.2.2.1 (And.intro hv.2.2.2.2.1 ?_))))
  refine zCl.use (c_X8_feed (σ.1 1000003 (nI i + 1).toNatClampNeg) (σ.1 1000003 (nI i + 2).toNatClampNeg) (σ.1 1000003 (nI i + 3).toNatClampNeg) (σ.1 1000003 (nI i + 4).toNatClampNeg) (σ.1 1000003 (nI i + 5).toNatClampNeg) N σ k1) (Nat.le_of_ble_eq_true rfl) ?_
  rintro _ σz ⟨rfl, hz⟩
  rw [← hz] at k2 k3 k4 k5
  refine And.intro hv.1 (And.intro hv.2.1 (And.intro hv.2.2.1 (And.intro hv.2.2.2.1 (And.intro hv.2.2.2.2.1 ?_))))
  have e1 : σz.1 1000003 (nI i + 1).toNatClampNeg = σ.1 1000003 (nI i + 1).toNatClampNeg := k2 _ _ (by omega)
  have e2 : σz.1 1000003 (nI i + 2).toNatClampNeg = σ.1 1000003 (nI i + 2).toNatClampNeg := k2 _ _ (by omega)
  have e3 : σz.1 1000003 (nI i + 3).toNatClampNeg = σ.1 1000003 (nI i + 3).toNatClampNeg := k2 _ _ (by omega)
  have e4 : σz.1 1000003 (nI i + 4).toNatClampNeg = σ.1 1000003 (nI i + 4).toNatClampNeg := k2 _ _ (by omega)
  have e5 : σz.1 1000003 (nI i + 5).toNatClampNeg = σ.1 1000003 (nI i + 5).toNatClampNeg := k2 _ _ (by omega)
  refine zCl.use (c_X9_feed (σz.1 1000003 (nI i + 1).toNatClampNeg) (σz.1 1000003 (nI i + 2).toNatClampNeg) (σz.1 1000003 (nI i + 3).toNatClampNeg) (σz.1 1000003 (nI i + 4).toNatClampNeg) (σz.1 1000003 (nI i + 5).toNatClampNeg) N σz (by rw [e1, e2, e3, e4, e5]; exact k3)) (Nat.le_of_ble_eq_true rfl) ?_
  rintro _ σy ⟨rfl, hy⟩
  have k6 : LWs (U + 500) σy := by
    rw [hy, e1, e2, e3, e4, e5]
    exact k5
  refine And.intro (fun _ => hk σy k6) (fun y => absurd ?_ y)
  rw [e1, e2, e3, e4, e5]
  exact k4
set_option maxRecDepth 100000 in
set_option maxHeartbeats 1000000 in
theorem lc_1 (hv : lwV L i) (hN : 200000 < N) (hU : U ≤ 299000) (h : LWs U σ) (hk : lwN L i (U + 500)) : zWp 200 zall 501 309 lwQ zall 501 235 (lwL L i) [] σ := by
  obtain ⟨k1, k2, k3, k4, k5⟩ := pr2_use h (fun τ h => pr_end (x1 := σ.1 1000003 (nI i + 1).toNatClampNeg) h)
  have k5 := k5.up (show U ≤ U + 500 by omega)
  refine zvc_sound (cd := kL_law) (cs := [1137]) rfl okL_law 1000 _ _ 235 (zseek kL_law 235) _ _ _ zseek_sub ?_
  refine And.intro hv.1 ?_
  refine zCl.use (c_X8_end (σ.1 1000003 (nI i + 1).toNatClampNeg) σ) (Nat.le_of_ble_eq_true rfl) ?_
  rintro _ σz ⟨rfl, hz⟩
  rw [← hz] at k2 k4 k5
  refine And.intro hv.1 ?_
  have e1 : σz.1 1000003 (nI i + 1).toNatClampNeg = σ.1 1000003 (nI i + 1).toNatClampNeg := k2 _ _ (by omega)
  refine zCl.use (c_X9_end (σz.1 1000003 (nI i + 1).toNatClampNeg) σz) (Nat.le_of_ble_eq_true rfl) ?_
  rintro _ σy ⟨rfl, hy⟩
  have k6 : LWs (U + 500) σy := by
    rw [hy, e1]
    exact k5
  refine And.intro (fun _ => hk σy k6) (fun y => absurd ?_ y)
  rw [e1]
  exact k4
set_option maxRecDepth 100000 in
set_option maxHeartbeats 1000000 in
theorem lc_2 (hv : lwV L i) (hN : 200000 < N) (hU : U ≤ 299000) (h : LWs U σ) (hk : lwN L i (U + 500)) : zWp 200 zall 501 309 lwQ zall 501 258 (lwL L i) [] σ := by
  obtain ⟨k1, k2, k3, k4, k5⟩ := pr2_use h (fun τ h => pr_store (N := N)  h hN)
  have k5 := k5.up (show U ≤ U + 500 by omega)
  refine zvc_sound (cd := kL_law) (cs := [1137]) rfl okL_law 1000 _ _ 258 (zseek kL_law 258) _ _ _ zseek_sub ?_
  refine zCl.use (c_X8_store  N σ k1) (Nat.le_of_ble_eq_true rfl) ?_
  rintro _ σz ⟨rfl, hz⟩
  rw [← hz] at k2 k3 k4 k5
  refine zCl.use (c_X9_store  N σz (k3)) (Nat.le_of_ble_eq_true rfl) ?_
  rintro _ σy ⟨rfl, hy⟩
  have k6 : LWs (U + 500) σy := by
    rw [hy]
    exact k5
  refine And.intro (fun _ => hk σy k6) (fun y => absurd ?_ y)
  exact k4
set_option maxRecDepth 100000 in
set_option maxHeartbeats 1000000 in
theorem lc_3 (hv : lwV L i) (hN : 200000 < N) (hU : U ≤ 299000) (h : LWs U σ) (hk : lwN L i (U + 500)) : zWp 200 zall 501 309 lwQ zall 501 271 (lwL L i) [] σ := by
  have k3 := pr_fault (x1 := σ.1 1000003 (nI i + 1).toNatClampNeg) h.1
  refine zvc_sound (cd := kL_law) (cs := [1137]) rfl okL_law 1000 _ _ 271 (zseek kL_law 271) _ _ _ zseek_sub ?_
  refine And.intro hv.1 ?_
  refine zCl.use (c_X8_fault (σ.1 1000003 (nI i + 1).toNatClampNeg) σ) (Nat.le_of_ble_eq_true rfl) ?_
  rintro _ σz ⟨rfl, hz⟩
  subst σz
  refine And.intro hv.1 ?_
  refine zCl.use (c_X9_fault (σ.1 1000003 (nI i + 1).toNatClampNeg) σ) (Nat.le_of_ble_eq_true rfl) ?_
  rintro _ σz ⟨rfl, hz⟩
  subst σz
  exact And.intro (fun _ => hk σ (h.up (by omega))) (fun y => absurd k3 y)
set_option maxRecDepth 100000 in
set_option maxHeartbeats 1000000 in
theorem lc_4 (hv : lwV L i) (hN : 200000 < N) (hU : U ≤ 299000) (h : LWs U σ) (hk : lwN L i (U + 500)) : zWp 200 zall 501 309 lwQ zall 501 294 (lwL L i) [] σ := by
  obtain ⟨k1, k2, k3, k4, k5⟩ := pr2_use h (fun τ h => pr_run (N := N) (x1 := σ.1 1000003 (nI i + 1).toNatClampNeg) h hN (by omega))
  refine zvc_sound (cd := kL_law) (cs := [1137]) rfl okL_law 1000 _ _ 294 (zseek kL_law 294) _ _ _ zseek_sub ?_
  refine And.intro hv.1 ?_
  refine zCl.use (c_X8_run (σ.1 1000003 (nI i + 1).toNatClampNeg) N σ k1) (Nat.le_of_ble_eq_true rfl) ?_
  rintro _ σz ⟨rfl, hz⟩
  rw [← hz] at k2 k3 k4 k5
  refine And.intro hv.1 ?_
  have e1 : σz.1 1000003 (nI i + 1).toNatClampNeg = σ.1 1000003 (nI i + 1).toNatClampNeg := k2 _ _ (by omega)
  refine zCl.use (c_X9_run (σz.1 1000003 (nI i + 1).toNatClampNeg) N σz (by rw [e1]; exact k3)) (Nat.le_of_ble_eq_true rfl) ?_
  rintro _ σy ⟨rfl, hy⟩
  have k6 : LWs (U + 500) σy := by
    rw [hy, e1]
    exact k5
  refine And.intro (fun _ => hk σy k6) (fun y => absurd ?_ y)
  rw [e1]
  exact k4
set_option maxRecDepth 100000 in
set_option maxHeartbeats 1000000 in
theorem lc_5 (hv : lwV L i) (hN : 200000 < N) (hU : U ≤ 299000) (h : LWs U σ) (hk : lwN L i (U + 500)) : zWp 200 zall 501 309 lwQ zall 501 317 (lwL L i) [] σ := by
  obtain ⟨k1, k2, k3, k4, k5⟩ := pr2_use h (fun τ h => pr_handler (N := N) (x1 := σ.1 1000003 (nI i + 1).toNatClampNeg) (x2 := σ.1 1000003 (nI i + 2).toNatClampNeg) h hN)
  have k5 := k5.up (show U ≤ U + 500 by omega)
  refine zvc_sound (cd := kL_law) (cs := [1137]) rfl okL_law 1000 _ _ 317 (zseek kL_law 317) _ _ _ zseek_sub ?_
  refine And.intro hv.1 (And.intro hv.2.1 ?_)
  refine zCl.use (c_X8_handler (σ.1 1000003 (nI i + 1).toNatClampNeg) (σ.1 1000003 (nI i + 2).toNatClampNeg) N σ k1) (Nat.le_of_ble_eq_true rfl) ?_
  rintro _ σz ⟨rfl, hz⟩
  rw [← hz] at k2 k3 k4 k5
  refine And.intro hv.1 (And.intro hv.2.1 ?_)
  have e1 : σz.1 1000003 (nI i + 1).toNatClampNeg = σ.1 1000003 (nI i + 1).toNatClampNeg := k2 _ _ (by omega)
  have e2 : σz.1 1000003 (nI i + 2).toNatClampNeg = σ.1 1000003 (nI i + 2).toNatClampNeg := k2 _ _ (by omega)
  refine zCl.use (c_X9_handler (σz.1 1000003 (nI i + 1).toNatClampNeg) (σz.1 1000003 (nI i + 2).toNatClampNeg) N σz (by rw [e1, e2]; exact k3)) (Nat.le_of_ble_eq_true rfl) ?_
  rintro _ σy ⟨rfl, hy⟩
  have k6 : LWs (U + 500) σy := by
    rw [hy, e1, e2]
    exact k5
  refine And.intro (fun _ => hk σy k6) (fun y => absurd ?_ y)
  rw [e1, e2]
  exact k4
set_option maxRecDepth 100000 in
set_option maxHeartbeats 1000000 in
theorem lc_6 (hv : lwV L i) (hN : 200000 < N) (hU : U ≤ 299000) (h : LWs U σ) (hk : lwN L i (U + 500)) : zWp 200 zall 501 309 lwQ zall 501 350 (lwL L i) [] σ := by
  obtain ⟨k1, k2, k3, k4, k5⟩ := pr2_use h (fun τ h => pr_pric (N := N) (x1 := σ.1 1000003 (nI i + 1).toNatClampNeg) (x2 := σ.1 1000003 (nI i + 2).toNatClampNeg) h hN)
  have k5 := k5.up (show U ≤ U + 500 by omega)
  refine zvc_sound (cd := kL_law) (cs := [1137]) rfl okL_law 1000 _ _ 350 (zseek kL_law 350) _ _ _ zseek_sub ?_
  refine And.intro hv.1 (And.intro hv.2.1 ?_)
  refine zCl.use (c_X8_price (σ.1 1000003 (nI i + 1).toNatClampNeg) (σ.1 1000003 (nI i + 2).toNatClampNeg) N σ k1) (Nat.le_of_ble_eq_true rfl) ?_
  rintro _ σz ⟨rfl, hz⟩
  rw [← hz] at k2 k3 k4 k5
  refine And.intro hv.1 (And.intro hv.2.1 ?_)
  have e1 : σz.1 1000003 (nI i + 1).toNatClampNeg = σ.1 1000003 (nI i + 1).toNatClampNeg := k2 _ _ (by omega)
  have e2 : σz.1 1000003 (nI i + 2).toNatClampNeg = σ.1 1000003 (nI i + 2).toNatClampNeg := k2 _ _ (by omega)
  refine zCl.use (c_X9_price (σz.1 1000003 (nI i + 1).toNatClampNeg) (σz.1 1000003 (nI i + 2).toNatClampNeg) N σz (by rw [e1, e2]; exact k3)) (Nat.le_of_ble_eq_true rfl) ?_
  rintro _ σy ⟨rfl, hy⟩
  have k6 : LWs (U + 500) σy := by
    rw [hy, e1, e2]
    exact k5
  refine And.intro (fun _ => hk σy k6) (fun y => absurd ?_ y)
  rw [e1, e2]
  exact k4
set_option maxRecDepth 100000 in
set_option maxHeartbeats 1000000 in
theorem lc_7 (hv : lwV L i) (hN : 200000 < N) (hU : U ≤ 299000) (h : LWs U σ) (hk : lwN L i (U + 500)) : zWp 200 zall 501 309 lwQ zall 501 383 (lwL L i) [] σ := by
  obtain ⟨k1, k2, k3, k4, k5⟩ := pr2_use h (fun τ h => pr_slic (N := N) (x1 := σ.1 1000003 (nI i + 1).toNatClampNeg) h hN)
  have k5 := k5.up (show U ≤ U + 500 by omega)
  refine zvc_sound (cd := kL_law) (cs := [1137]) rfl okL_law 1000 _ _ 383 (zseek kL_law 383) _ _ _ zseek_sub ?_
  refine And.intro hv.1 ?_
  refine zCl.use (c_X8_slice (σ.1 1000003 (nI i + 1).toNatClampNeg) N σ k1) (Nat.le_of_ble_eq_true rfl) ?_
  rintro _ σz ⟨rfl, hz⟩
  rw [← hz] at k2 k3 k4 k5
  refine And.intro hv.1 ?_
  have e1 : σz.1 1000003 (nI i + 1).toNatClampNeg = σ.1 1000003 (nI i + 1).toNatClampNeg := k2 _ _ (by omega)
  refine zCl.use (c_X9_slice (σz.1 1000003 (nI i + 1).toNatClampNeg) N σz (by rw [e1]; exact k3)) (Nat.le_of_ble_eq_true rfl) ?_
  rintro _ σy ⟨rfl, hy⟩
  have k6 : LWs (U + 500) σy := by
    rw [hy, e1]
    exact k5
  refine And.intro (fun _ => hk σy k6) (fun y => absurd ?_ y)
  rw [e1]
  exact k4
set_option maxRecDepth 100000 in
set_option maxHeartbeats 1000000 in
theorem lc_8 (hv : lwV L i) (hN : 200000 < N) (hU : U ≤ 299000) (h : LWs U σ) (hk : lwN L i (U + 500)) : zWp 200 zall 501 309 lwQ zall 501 406 (lwL L i) [] σ := by
  obtain ⟨k1, k2, k3, k4, k5⟩ := pr2_use h (fun τ h => pr_agai (N := N) (x1 := σ.1 1000003 (nI i + 1).toNatClampNeg) h hN)
  have k5 := k5.up (show U ≤ U + 500 by omega)
  refine zvc_sound (cd := kL_law) (cs := [1137]) rfl okL_law 1000 _ _ 406 (zseek kL_law 406) _ _ _ zseek_sub ?_
  refine And.intro hv.1 ?_
  refine zCl.use (c_X8_again (σ.1 1000003 (nI i + 1).toNatClampNeg) N σ k1) (Nat.le_of_ble_eq_true rfl) ?_
  rintro _ σz ⟨rfl, hz⟩
  rw [← hz] at k2 k3 k4 k5
  refine And.intro hv.1 ?_
  have e1 : σz.1 1000003 (nI i + 1).toNatClampNeg = σ.1 1000003 (nI i + 1).toNatClampNeg := k2 _ _ (by omega)
  refine zCl.use (c_X9_again (σz.1 1000003 (nI i + 1).toNatClampNeg) N σz (by rw [e1]; exact k3)) (Nat.le_of_ble_eq_true rfl) ?_
  rintro _ σy ⟨rfl, hy⟩
  have k6 : LWs (U + 500) σy := by
    rw [hy, e1]
    exact k5
  refine And.intro (fun _ => hk σy k6) (fun y => absurd ?_ y)
  rw [e1]
  exact k4
set_option maxRecDepth 100000 in
set_option maxHeartbeats 1000000 in
theorem lc_9 (hv : lwV L i) (hN : 200000 < N) (hU : U ≤ 299000) (h : LWs U σ) (hk : lwN L i (U + 500)) : zWp 200 zall 501 309 lwQ zall 501 429 (lwL L i) [] σ := by
  obtain ⟨k1, k2, k3, k4, k5⟩ := pr2_use h (fun τ h => pr_und (N := N)  h hN)
  have k5 := k5.up (show U ≤ U + 500 by omega)
  refine zvc_sound (cd := kL_law) (cs := [1137]) rfl okL_law 1000 _ _ 429 (zseek kL_law 429) _ _ _ zseek_sub ?_
  refine zCl.use (c_X8_undo  σ) (Nat.le_of_ble_eq_true rfl) ?_
  rintro _ σz ⟨rfl, hz⟩
  rw [← hz] at k2 k3 k4 k5
  refine zCl.use (c_X9_undo  N σz (k3)) (Nat.le_of_ble_eq_true rfl) ?_
  rintro _ σy ⟨rfl, hy⟩
  have k6 : LWs (U + 500) σy := by
    rw [hy]
    exact k5
  refine And.intro (fun _ => hk σy k6) (fun y => absurd ?_ y)
  exact k4
set_option maxRecDepth 100000 in
set_option maxHeartbeats 1000000 in
theorem lc_10 (hv : lwV L i) (hN : 200000 < N) (hU : U ≤ 299000) (h : LWs U σ) (hk : lwN L i (U + 500)) : zWp 200 zall 501 309 lwQ zall 501 442 (lwL L i) [] σ := by
  obtain ⟨k1, k2, k3, k4, k5⟩ := pr2_use h (fun τ h => pr_red (N := N)  h hN)
  have k5 := k5.up (show U ≤ U + 500 by omega)
  refine zvc_sound (cd := kL_law) (cs := [1137]) rfl okL_law 1000 _ _ 442 (zseek kL_law 442) _ _ _ zseek_sub ?_
  refine zCl.use (c_X8_redo  σ) (Nat.le_of_ble_eq_true rfl) ?_
  rintro _ σz ⟨rfl, hz⟩
  rw [← hz] at k2 k3 k4 k5
  refine zCl.use (c_X9_redo  N σz (k3)) (Nat.le_of_ble_eq_true rfl) ?_
  rintro _ σy ⟨rfl, hy⟩
  have k6 : LWs (U + 500) σy := by
    rw [hy]
    exact k5
  refine And.intro (fun _ => hk σy k6) (fun y => absurd ?_ y)
  exact k4
set_option maxRecDepth 100000 in
set_option maxHeartbeats 1000000 in
theorem lc_11 (hv : lwV L i) (hN : 200000 < N) (hU : U ≤ 299000) (h : LWs U σ) (hk : lwN L i (U + 500)) : zWp 200 zall 501 309 lwQ zall 501 455 (lwL L i) [] σ := by
  obtain ⟨k1, k2, k3⟩ := pr_task (x1 := σ.1 1000003 (nI i + 1).toNatClampNeg) (x2 := σ.1 1000003 (nI i + 2).toNatClampNeg) h.1
  refine zvc_sound (cd := kL_law) (cs := [1137]) rfl okL_law 1000 _ _ 455 (zseek kL_law 455) _ _ _ zseek_sub ?_
  refine And.intro hv.1 (And.intro hv.2.1 ?_)
  refine zCl.use (c_X8_task (σ.1 1000003 (nI i + 1).toNatClampNeg) (σ.1 1000003 (nI i + 2).toNatClampNeg) σ k1) (Nat.le_of_ble_eq_true rfl) ?_
  rintro _ σz ⟨rfl, hz⟩
  subst σz
  refine And.intro hv.1 (And.intro hv.2.1 ?_)
  refine zCl.use (c_X9_task (σ.1 1000003 (nI i + 1).toNatClampNeg) (σ.1 1000003 (nI i + 2).toNatClampNeg) σ k2) (Nat.le_of_ble_eq_true rfl) ?_
  rintro _ σz ⟨rfl, hz⟩
  subst σz
  exact And.intro (fun _ => hk σ (h.up (by omega))) (fun y => absurd k3 y)
set_option maxRecDepth 100000 in
set_option maxHeartbeats 1000000 in
theorem lc_12 (hv : lwV L i) (hN : 200000 < N) (hU : U ≤ 299000) (h : LWs U σ) (hk : lwN L i (U + 500)) : zWp 200 zall 501 309 lwQ zall 501 488 (lwL L i) [] σ := by
  obtain ⟨k1, k2, k3⟩ := pr_result (x1 := σ.1 1000003 (nI i + 1).toNatClampNeg) h.1
  refine zvc_sound (cd := kL_law) (cs := [1137]) rfl okL_law 1000 _ _ 488 (zseek kL_law 488) _ _ _ zseek_sub ?_
  refine And.intro hv.1 ?_
  refine zCl.use (c_X8_result (σ.1 1000003 (nI i + 1).toNatClampNeg) σ k1) (Nat.le_of_ble_eq_true rfl) ?_
  rintro _ σz ⟨rfl, hz⟩
  subst σz
  refine And.intro hv.1 ?_
  refine zCl.use (c_X9_result (σ.1 1000003 (nI i + 1).toNatClampNeg) σ k2) (Nat.le_of_ble_eq_true rfl) ?_
  rintro _ σz ⟨rfl, hz⟩
  subst σz
  exact And.intro (fun _ => hk σ (h.up (by omega))) (fun y => absurd k3 y)
set_option maxRecDepth 100000 in
set_option maxHeartbeats 1000000 in
theorem lc_13 (hv : lwV L i) (hN : 200000 < N) (hU : U ≤ 299000) (h : LWs U σ) (hk : lwN L i (U + 500)) : zWp 200 zall 501 309 lwQ zall 501 511 (lwL L i) [] σ := by
  obtain ⟨k1, k2, k3⟩ := pr_window (x1 := σ.1 1000003 (nI i + 1).toNatClampNeg) (x2 := σ.1 1000003 (nI i + 2).toNatClampNeg) h.1
  refine zvc_sound (cd := kL_law) (cs := [1137]) rfl okL_law 1000 _ _ 511 (zseek kL_law 511) _ _ _ zseek_sub ?_
  refine And.intro hv.1 (And.intro hv.2.1 ?_)
  refine zCl.use (c_X8_window (σ.1 1000003 (nI i + 1).toNatClampNeg) (σ.1 1000003 (nI i + 2).toNatClampNeg) σ k1) (Nat.le_of_ble_eq_true rfl) ?_
  rintro _ σz ⟨rfl, hz⟩
  subst σz
  refine And.intro hv.1 (And.intro hv.2.1 ?_)
  refine zCl.use (c_X9_window (σ.1 1000003 (nI i + 1).toNatClampNeg) (σ.1 1000003 (nI i + 2).toNatClampNeg) σ k2) (Nat.le_of_ble_eq_true rfl) ?_
  rintro _ σz ⟨rfl, hz⟩
  subst σz
  exact And.intro (fun _ => hk σ (h.up (by omega))) (fun y => absurd k3 y)
set_option maxRecDepth 100000 in
set_option maxHeartbeats 1000000 in
theorem lc_14 (hv : lwV L i) (hN : 200000 < N) (hU : U ≤ 299000) (h : LWs U σ) (hk : lwN L i (U + 500)) : zWp 200 zall 501 309 lwQ zall 501 544 (lwL L i) [] σ := by
  obtain ⟨k1, k2, k3⟩ := pr_register (x1 := σ.1 1000003 (nI i + 1).toNatClampNeg) (x2 := σ.1 1000003 (nI i + 2).toNatClampNeg) h.1
  refine zvc_sound (cd := kL_law) (cs := [1137]) rfl okL_law 1000 _ _ 544 (zseek kL_law 544) _ _ _ zseek_sub ?_
  refine And.intro hv.1 (And.intro hv.2.1 ?_)
  refine zCl.use (c_X8_register (σ.1 1000003 (nI i + 1).toNatClampNeg) (σ.1 1000003 (nI i + 2).toNatClampNeg) σ k1) (Nat.le_of_ble_eq_true rfl) ?_
  rintro _ σz ⟨rfl, hz⟩
  subst σz
  refine And.intro hv.1 (And.intro hv.2.1 ?_)
  refine zCl.use (c_X9_register (σ.1 1000003 (nI i + 1).toNatClampNeg) (σ.1 1000003 (nI i + 2).toNatClampNeg) σ k2) (Nat.le_of_ble_eq_true rfl) ?_
  rintro _ σz ⟨rfl, hz⟩
  subst σz
  exact And.intro (fun _ => hk σ (h.up (by omega))) (fun y => absurd k3 y)
set_option maxRecDepth 100000 in
set_option maxHeartbeats 1000000 in
theorem lc_15 (hv : lwV L i) (hN : 200000 < N) (hU : U ≤ 299000) (h : LWs U σ) (hk : lwN L i (U + 500)) : zWp 200 zall 501 309 lwQ zall 501 577 (lwL L i) [] σ := by
  obtain ⟨k1, k2, k3⟩ := pr_value (x1 := σ.1 1000003 (nI i + 1).toNatClampNeg) (x2 := σ.1 1000003 (nI i + 2).toNatClampNeg) (x3 := σ.1 1000003 (nI i + 3).toNatClampNeg) h.1
  refine zvc_sound (cd := kL_law) (cs := [1137]) rfl okL_law 1000 _ _ 577 (zseek kL_law 577) _ _ _ zseek_sub ?_
  refine And.intro hv.1 (And.intro hv.2.1 (And.intro hv.2.2.1 ?_))
  refine zCl.use (c_X8_value (σ.1 1000003 (nI i + 1).toNatClampNeg) (σ.1 1000003 (nI i + 2).toNatClampNeg) (σ.1 1000003 (nI i + 3).toNatClampNeg) σ k1) (Nat.le_of_ble_eq_true rfl) ?_
  rintro _ σz ⟨rfl, hz⟩
  subst σz
  refine And.intro hv.1 (And.intro hv.2.1 (And.intro hv.2.2.1 ?_))
  refine zCl.use (c_X9_value (σ.1 1000003 (nI i + 1).toNatClampNeg) (σ.1 1000003 (nI i + 2).toNatClampNeg) (σ.1 1000003 (nI i + 3).toNatClampNeg) σ k2) (Nat.le_of_ble_eq_true rfl) ?_
  rintro _ σz ⟨rfl, hz⟩
  subst σz
  exact And.intro (fun _ => hk σ (h.up (by omega))) (fun y => absurd k3 y)
set_option maxRecDepth 100000 in
set_option maxHeartbeats 1000000 in
theorem lc_16 (hv : lwV L i) (hN : 200000 < N) (hU : U ≤ 299000) (h : LWs U σ) (hk : lwN L i (U + 500)) : zWp 200 zall 501 309 lwQ zall 501 620 (lwL L i) [] σ := by
  obtain ⟨k1, k2, k3⟩ := pr_where (x1 := σ.1 1000003 (nI i + 1).toNatClampNeg) (x2 := σ.1 1000003 (nI i + 2).toNatClampNeg) h.1
  refine zvc_sound (cd := kL_law) (cs := [1137]) rfl okL_law 1000 _ _ 620 (zseek kL_law 620) _ _ _ zseek_sub ?_
  refine And.intro hv.1 (And.intro hv.2.1 ?_)
  refine zCl.use (c_X8_where (σ.1 1000003 (nI i + 1).toNatClampNeg) (σ.1 1000003 (nI i + 2).toNatClampNeg) σ k1) (Nat.le_of_ble_eq_true rfl) ?_
  rintro _ σz ⟨rfl, hz⟩
  subst σz
  refine And.intro hv.1 (And.intro hv.2.1 ?_)
  refine zCl.use (c_X9_where (σ.1 1000003 (nI i + 1).toNatClampNeg) (σ.1 1000003 (nI i + 2).toNatClampNeg) σ k2) (Nat.le_of_ble_eq_true rfl) ?_
  rintro _ σz ⟨rfl, hz⟩
  subst σz
  exact And.intro (fun _ => hk σ (h.up (by omega))) (fun y => absurd k3 y)
set_option maxRecDepth 100000 in
set_option maxHeartbeats 1000000 in
theorem lc_17 (hv : lwV L i) (hN : 200000 < N) (hU : U ≤ 299000) (h : LWs U σ) (hk : lwN L i (U + 500)) : zWp 200 zall 501 309 lwQ zall 501 653 (lwL L i) [] σ := by
  obtain ⟨k1, k2, k3, k4, k5⟩ := pr2_use h (fun τ h => pr_plain (N := N) (x1 := σ.1 1000003 (nI i + 1).toNatClampNeg) (x2 := σ.1 1000003 (nI i + 2).toNatClampNeg) (x3 := σ.1 1000003 (nI i + 3).toNatClampNeg) (x4 := σ.1 1000003 (nI i + 4).toNatClampNeg) (x5 := σ.1 1000003 (nI i + 5).toNatClampNeg) h hN)
  have k5 := k5.up (show U ≤ U + 500 by omega)
  refine zvc_sound (cd := kL_law) (cs := [1137]) rfl okL_law 1000 _ _ 653 (zseek kL_law 653) _ _ _ zseek_sub ?_
  refine And.intro hv.1 (And.intro hv.2.1 (And.intro hv.2.2.1 (And.intro hv.2.2.2.1 (And.intro hv.2.2.2.2.1 ?_))))
  refine zCl.use (c_X8_plain (σ.1 1000003 (nI i + 1).toNatClampNeg) (σ.1 1000003 (nI i + 2).toNatClampNeg) (σ.1 1000003 (nI i + 3).toNatClampNeg) (σ.1 1000003 (nI i + 4).toNatClampNeg) (σ.1 1000003 (nI i + 5).toNatClampNeg) N σ k1) (Nat.le_of_ble_eq_true rfl) ?_
  rintro _ σz ⟨rfl, hz⟩
  rw [← hz] at k2 k3 k4 k5
  refine And.intro hv.1 (And.intro hv.2.1 (And.intro hv.2.2.1 (And.intro hv.2.2.2.1 (And.intro hv.2.2.2.2.1 ?_))))
  have e1 : σz.1 1000003 (nI i + 1).toNatClampNeg = σ.1 1000003 (nI i + 1).toNatClampNeg := k2 _ _ (by omega)
  have e2 : σz.1 1000003 (nI i + 2).toNatClampNeg = σ.1 1000003 (nI i + 2).toNatClampNeg := k2 _ _ (by omega)
  have e3 : σz.1 1000003 (nI i + 3).toNatClampNeg = σ.1 1000003 (nI i + 3).toNatClampNeg := k2 _ _ (by omega)
  have e4 : σz.1 1000003 (nI i + 4).toNatClampNeg = σ.1 1000003 (nI i + 4).toNatClampNeg := k2 _ _ (by omega)
  have e5 : σz.1 1000003 (nI i + 5).toNatClampNeg = σ.1 1000003 (nI i + 5).toNatClampNeg := k2 _ _ (by omega)
  refine zCl.use (c_X9_plain (σz.1 1000003 (nI i + 1).toNatClampNeg) (σz.1 1000003 (nI i + 2).toNatClampNeg) (σz.1 1000003 (nI i + 3).toNatClampNeg) (σz.1 1000003 (nI i + 4).toNatClampNeg) (σz.1 1000003 (nI i + 5).toNatClampNeg) N σz (by rw [e1, e2, e3, e4, e5]; exact k3)) (Nat.le_of_ble_eq_true rfl) ?_
  rintro _ σy ⟨rfl, hy⟩
  have k6 : LWs (U + 500) σy := by
    rw [hy, e1, e2, e3, e4, e5]
    exact k5
  refine And.intro (fun _ => hk σy k6) (fun y => absurd ?_ y)
  rw [e1, e2, e3, e4, e5]
  exact k4
set_option maxRecDepth 100000 in
set_option maxHeartbeats 1000000 in
theorem lc_18 (hv : lwV L i) (hN : 200000 < N) (hU : U ≤ 299000) (h : LWs U σ) (hk : lwN L i (U + 500)) : zWp 200 zall 501 309 lwQ zall 501 716 (lwL L i) [] σ := by
  obtain ⟨k1, k2, k3, k4, k5⟩ := pr2_use h (fun τ h => pr_profile (N := N) (x1 := σ.1 1000003 (nI i + 1).toNatClampNeg) (x2 := σ.1 1000003 (nI i + 2).toNatClampNeg) (x3 := σ.1 1000003 (nI i + 3).toNatClampNeg) (x4 := σ.1 1000003 (nI i + 4).toNatClampNeg) (x5 := σ.1 1000003 (nI i + 5).toNatClampNeg) (x6 := σ.1 1000003 (nI i + 6).toNatClampNeg) h hN)
  have k5 := k5.up (show U ≤ U + 500 by omega)
  refine zvc_sound (cd := kL_law) (cs := [1137]) rfl okL_law 1000 _ _ 716 (zseek kL_law 716) _ _ _ zseek_sub ?_
  refine And.intro hv.1 (And.intro hv.2.1 (And.intro hv.2.2.1 (And.intro hv.2.2.2.1 (And.intro hv.2.2.2.2.1 (And.intro hv.2.2.2.2.2.1 ?_)))))
  refine zCl.use (c_X8_profile (σ.1 1000003 (nI i + 1).toNatClampNeg) (σ.1 1000003 (nI i + 2).toNatClampNeg) (σ.1 1000003 (nI i + 3).toNatClampNeg) (σ.1 1000003 (nI i + 4).toNatClampNeg) (σ.1 1000003 (nI i + 5).toNatClampNeg) (σ.1 1000003 (nI i + 6).toNatClampNeg) N σ k1) (Nat.le_of_ble_eq_true rfl) ?_
  rintro _ σz ⟨rfl, hz⟩
  rw [← hz] at k2 k3 k4 k5
  refine And.intro hv.1 (And.intro hv.2.1 (And.intro hv.2.2.1 (And.intro hv.2.2.2.1 (And.intro hv.2.2.2.2.1 (And.intro hv.2.2.2.2.2.1 ?_)))))
  have e1 : σz.1 1000003 (nI i + 1).toNatClampNeg = σ.1 1000003 (nI i + 1).toNatClampNeg := k2 _ _ (by omega)
  have e2 : σz.1 1000003 (nI i + 2).toNatClampNeg = σ.1 1000003 (nI i + 2).toNatClampNeg := k2 _ _ (by omega)
  have e3 : σz.1 1000003 (nI i + 3).toNatClampNeg = σ.1 1000003 (nI i + 3).toNatClampNeg := k2 _ _ (by omega)
  have e4 : σz.1 1000003 (nI i + 4).toNatClampNeg = σ.1 1000003 (nI i + 4).toNatClampNeg := k2 _ _ (by omega)
  have e5 : σz.1 1000003 (nI i + 5).toNatClampNeg = σ.1 1000003 (nI i + 5).toNatClampNeg := k2 _ _ (by omega)
  have e6 : σz.1 1000003 (nI i + 6).toNatClampNeg = σ.1 1000003 (nI i + 6).toNatClampNeg := k2 _ _ (by omega)
  refine zCl.use (c_X9_profile (σz.1 1000003 (nI i + 1).toNatClampNeg) (σz.1 1000003 (nI i + 2).toNatClampNeg) (σz.1 1000003 (nI i + 3).toNatClampNeg) (σz.1 1000003 (nI i + 4).toNatClampNeg) (σz.1 1000003 (nI i + 5).toNatClampNeg) (σz.1 1000003 (nI i + 6).toNatClampNeg) N σz (by rw [e1, e2, e3, e4, e5, e6]; exact k3)) (Nat.le_of_ble_eq_true rfl) ?_
  rintro _ σy ⟨rfl, hy⟩
  have k6 : LWs (U + 500) σy := by
    rw [hy, e1, e2, e3, e4, e5, e6]
    exact k5
  refine And.intro (fun _ => hk σy k6) (fun y => absurd ?_ y)
  rw [e1, e2, e3, e4, e5, e6]
  exact k4
set_option maxRecDepth 100000 in
set_option maxHeartbeats 1000000 in
theorem lc_19 (hv : lwV L i) (hN : 200000 < N) (hU : U ≤ 299000) (h : LWs U σ) (hk : lwN L i (U + 500)) : zWp 200 zall 501 309 lwQ zall 501 791 (lwL L i) [] σ := by
  obtain ⟨k1, k2, k3, k4, k5⟩ := pr2_use h (fun τ h => pr_depths (N := N) (x1 := σ.1 1000003 (nI i + 1).toNatClampNeg) (x2 := σ.1 1000003 (nI i + 2).toNatClampNeg) h hN)
  have k5 := k5.up (show U ≤ U + 500 by omega)
  refine zvc_sound (cd := kL_law) (cs := [1137]) rfl okL_law 1000 _ _ 791 (zseek kL_law 791) _ _ _ zseek_sub ?_
  refine And.intro hv.1 (And.intro hv.2.1 ?_)
  refine zCl.use (c_X8_depths (σ.1 1000003 (nI i + 1).toNatClampNeg) (σ.1 1000003 (nI i + 2).toNatClampNeg) N σ k1) (Nat.le_of_ble_eq_true rfl) ?_
  rintro _ σz ⟨rfl, hz⟩
  rw [← hz] at k2 k3 k4 k5
  refine And.intro hv.1 (And.intro hv.2.1 ?_)
  have e1 : σz.1 1000003 (nI i + 1).toNatClampNeg = σ.1 1000003 (nI i + 1).toNatClampNeg := k2 _ _ (by omega)
  have e2 : σz.1 1000003 (nI i + 2).toNatClampNeg = σ.1 1000003 (nI i + 2).toNatClampNeg := k2 _ _ (by omega)
  refine zCl.use (c_X9_depths (σz.1 1000003 (nI i + 1).toNatClampNeg) (σz.1 1000003 (nI i + 2).toNatClampNeg) N σz (by rw [e1, e2]; exact k3)) (Nat.le_of_ble_eq_true rfl) ?_
  rintro _ σy ⟨rfl, hy⟩
  have k6 : LWs (U + 500) σy := by
    rw [hy, e1, e2]
    exact k5
  refine And.intro (fun _ => hk σy k6) (fun y => absurd ?_ y)
  rw [e1, e2]
  exact k4
set_option maxRecDepth 100000 in
set_option maxHeartbeats 1000000 in
theorem lc_20 (hv : lwV L i) (hN : 200000 < N) (hU : U ≤ 299000) (h : LWs U σ) (hk : lwN L i (U + 500)) : zWp 200 zall 501 309 lwQ zall 501 824 (lwL L i) [] σ := by
  obtain ⟨k1, k2, k3, k4, k5⟩ := pr2_use h (fun τ h => pr_alon (N := N) (x1 := σ.1 1000003 (nI i + 1).toNatClampNeg) (x2 := σ.1 1000003 (nI i + 2).toNatClampNeg) (x3 := σ.1 1000003 (nI i + 3).toNatClampNeg) (x4 := σ.1 1000003 (nI i + 4).toNatClampNeg) h hN)
  have k5 := k5.up (show U ≤ U + 500 by omega)
  refine zvc_sound (cd := kL_law) (cs := [1137]) rfl okL_law 1000 _ _ 824 (zseek kL_law 824) _ _ _ zseek_sub ?_
  refine And.intro hv.1 (And.intro hv.2.1 (And.intro hv.2.2.1 (And.intro hv.2.2.2.1 ?_)))
  refine zCl.use (c_X8_alone (σ.1 1000003 (nI i + 1).toNatClampNeg) (σ.1 1000003 (nI i + 2).toNatClampNeg) (σ.1 1000003 (nI i + 3).toNatClampNeg) (σ.1 1000003 (nI i + 4).toNatClampNeg) N σ k1) (Nat.le_of_ble_eq_true rfl) ?_
  rintro _ σz ⟨rfl, hz⟩
  rw [← hz] at k2 k3 k4 k5
  refine And.intro hv.1 (And.intro hv.2.1 (And.intro hv.2.2.1 (And.intro hv.2.2.2.1 ?_)))
  have e1 : σz.1 1000003 (nI i + 1).toNatClampNeg = σ.1 1000003 (nI i + 1).toNatClampNeg := k2 _ _ (by omega)
  have e2 : σz.1 1000003 (nI i + 2).toNatClampNeg = σ.1 1000003 (nI i + 2).toNatClampNeg := k2 _ _ (by omega)
  have e3 : σz.1 1000003 (nI i + 3).toNatClampNeg = σ.1 1000003 (nI i + 3).toNatClampNeg := k2 _ _ (by omega)
  have e4 : σz.1 1000003 (nI i + 4).toNatClampNeg = σ.1 1000003 (nI i + 4).toNatClampNeg := k2 _ _ (by omega)
  refine zCl.use (c_X9_alone (σz.1 1000003 (nI i + 1).toNatClampNeg) (σz.1 1000003 (nI i + 2).toNatClampNeg) (σz.1 1000003 (nI i + 3).toNatClampNeg) (σz.1 1000003 (nI i + 4).toNatClampNeg) N σz (by rw [e1, e2, e3, e4]; exact k3)) (Nat.le_of_ble_eq_true rfl) ?_
  rintro _ σy ⟨rfl, hy⟩
  have k6 : LWs (U + 500) σy := by
    rw [hy, e1, e2, e3, e4]
    exact k5
  refine And.intro (fun _ => hk σy k6) (fun y => absurd ?_ y)
  rw [e1, e2, e3, e4]
  exact k4
set_option maxRecDepth 100000 in
set_option maxHeartbeats 1000000 in
theorem lc_21 (hv : lwV L i) (hN : 200000 < N) (hU : U ≤ 299000) (h : LWs U σ) (hk : lwN L i (U + 500)) : zWp 200 zall 501 309 lwQ zall 501 877 (lwL L i) [] σ := by
  obtain ⟨k1, k2, k3, k4, k5⟩ := pr2_use h (fun τ h => pr_leas (N := N) (x1 := σ.1 1000003 (nI i + 1).toNatClampNeg) (x2 := σ.1 1000003 (nI i + 2).toNatClampNeg) h hN)
  have k5 := k5.up (show U ≤ U + 500 by omega)
  refine zvc_sound (cd := kL_law) (cs := [1137]) rfl okL_law 1000 _ _ 877 (zseek kL_law 877) _ _ _ zseek_sub ?_
  refine And.intro hv.1 (And.intro hv.2.1 ?_)
  refine zCl.use (c_X8_least (σ.1 1000003 (nI i + 1).toNatClampNeg) (σ.1 1000003 (nI i + 2).toNatClampNeg) N σ k1) (Nat.le_of_ble_eq_true rfl) ?_
  rintro _ σz ⟨rfl, hz⟩
  rw [← hz] at k2 k3 k4 k5
  refine And.intro hv.1 (And.intro hv.2.1 ?_)
  have e1 : σz.1 1000003 (nI i + 1).toNatClampNeg = σ.1 1000003 (nI i + 1).toNatClampNeg := k2 _ _ (by omega)
  have e2 : σz.1 1000003 (nI i + 2).toNatClampNeg = σ.1 1000003 (nI i + 2).toNatClampNeg := k2 _ _ (by omega)
  refine zCl.use (c_X9_least (σz.1 1000003 (nI i + 1).toNatClampNeg) (σz.1 1000003 (nI i + 2).toNatClampNeg) N σz (by rw [e1, e2]; exact k3)) (Nat.le_of_ble_eq_true rfl) ?_
  rintro _ σy ⟨rfl, hy⟩
  have k6 : LWs (U + 500) σy := by
    rw [hy, e1, e2]
    exact k5
  refine And.intro (fun _ => hk σy k6) (fun y => absurd ?_ y)
  rw [e1, e2]
  exact k4
set_option maxRecDepth 100000 in
set_option maxHeartbeats 1000000 in
theorem lc_22 (hv : lwV L i) (hN : 200000 < N) (hU : U ≤ 299000) (h : LWs U σ) (hk : lwN L i (U + 500)) : zWp 200 zall 501 309 lwQ zall 501 910 (lwL L i) [] σ := by
  obtain ⟨k1, k2, k3, k4, k5⟩ := pr2_use h (fun τ h => pr_suits (N := N) (x1 := σ.1 1000003 (nI i + 1).toNatClampNeg) h hN)
  have k5 := k5.up (show U ≤ U + 500 by omega)
  refine zvc_sound (cd := kL_law) (cs := [1137]) rfl okL_law 1000 _ _ 910 (zseek kL_law 910) _ _ _ zseek_sub ?_
  refine And.intro hv.1 ?_
  refine zCl.use (c_X8_suits (σ.1 1000003 (nI i + 1).toNatClampNeg) N σ k1) (Nat.le_of_ble_eq_true rfl) ?_
  rintro _ σz ⟨rfl, hz⟩
  rw [← hz] at k2 k3 k4 k5
  refine And.intro hv.1 ?_
  have e1 : σz.1 1000003 (nI i + 1).toNatClampNeg = σ.1 1000003 (nI i + 1).toNatClampNeg := k2 _ _ (by omega)
  refine zCl.use (c_X9_suits (σz.1 1000003 (nI i + 1).toNatClampNeg) N σz (by rw [e1]; exact k3)) (Nat.le_of_ble_eq_true rfl) ?_
  rintro _ σy ⟨rfl, hy⟩
  have k6 : LWs (U + 500) σy := by
    rw [hy, e1]
    exact k5
  refine And.intro (fun _ => hk σy k6) (fun y => absurd ?_ y)
  rw [e1]
  exact k4
set_option maxRecDepth 100000 in
set_option maxHeartbeats 1000000 in
theorem lc_23 (hv : lwV L i) (hN : 200000 < N) (hU : U ≤ 299000) (h : LWs U σ) (hk : lwN L i (U + 500)) : zWp 200 zall 501 309 lwQ zall 501 933 (lwL L i) [] σ := by
  obtain ⟨k1, k2, k3, k4, k5⟩ := pr2_use h (fun τ h => pr_would (N := N) (x1 := σ.1 1000003 (nI i + 1).toNatClampNeg) (x2 := σ.1 1000003 (nI i + 2).toNatClampNeg) (x3 := σ.1 1000003 (nI i + 3).toNatClampNeg) h hN (by omega))
  have k5 := k5.up (show U ≤ U + 500 by omega)
  refine zvc_sound (cd := kL_law) (cs := [1137]) rfl okL_law 1000 _ _ 933 (zseek kL_law 933) _ _ _ zseek_sub ?_
  refine And.intro hv.1 (And.intro hv.2.1 (And.intro hv.2.2.1 ?_))
  refine zCl.use (c_X8_would (σ.1 1000003 (nI i + 1).toNatClampNeg) (σ.1 1000003 (nI i + 2).toNatClampNeg) (σ.1 1000003 (nI i + 3).toNatClampNeg) N σ k1) (Nat.le_of_ble_eq_true rfl) ?_
  rintro _ σz ⟨rfl, hz⟩
  rw [← hz] at k2 k3 k4 k5
  refine And.intro hv.1 (And.intro hv.2.1 (And.intro hv.2.2.1 ?_))
  have e1 : σz.1 1000003 (nI i + 1).toNatClampNeg = σ.1 1000003 (nI i + 1).toNatClampNeg := k2 _ _ (by omega)
  have e2 : σz.1 1000003 (nI i + 2).toNatClampNeg = σ.1 1000003 (nI i + 2).toNatClampNeg := k2 _ _ (by omega)
  have e3 : σz.1 1000003 (nI i + 3).toNatClampNeg = σ.1 1000003 (nI i + 3).toNatClampNeg := k2 _ _ (by omega)
  refine zCl.use (c_X9_would (σz.1 1000003 (nI i + 1).toNatClampNeg) (σz.1 1000003 (nI i + 2).toNatClampNeg) (σz.1 1000003 (nI i + 3).toNatClampNeg) N σz (by rw [e1, e2, e3]; exact k3)) (Nat.le_of_ble_eq_true rfl) ?_
  rintro _ σy ⟨rfl, hy⟩
  have k6 : LWs (U + 500) σy := by
    rw [hy, e1, e2, e3]
    exact k5
  refine And.intro (fun _ => hk σy k6) (fun y => absurd ?_ y)
  rw [e1, e2, e3]
  exact k4
set_option maxRecDepth 100000 in
set_option maxHeartbeats 1000000 in
theorem lc_24 (hv : lwV L i) (hN : 200000 < N) (hU : U ≤ 299000) (h : LWs U σ) (hk : lwN L i (U + 500)) : zWp 200 zall 501 309 lwQ zall 501 976 (lwL L i) [] σ := by
  have hT := h.2
  obtain ⟨k1, k2, k3, k4, k5⟩ := pr2_use h (fun τ h => pr_best (N := N) (x1 := σ.1 1000003 (nI i + 1).toNatClampNeg) h hN (by omega) hT)
  have k5 := k5.up (show U ≤ U + 500 by omega)
  refine zvc_sound (cd := kL_law) (cs := [1137]) rfl okL_law 1000 _ _ 976 (zseek kL_law 976) _ _ _ zseek_sub ?_
  refine And.intro hv.1 ?_
  refine zCl.use (c_X8_best (σ.1 1000003 (nI i + 1).toNatClampNeg) N σ k1) (Nat.le_of_ble_eq_true rfl) ?_
  rintro _ σz ⟨rfl, hz⟩
  rw [← hz] at k2 k3 k4 k5
  refine And.intro hv.1 ?_
  have e1 : σz.1 1000003 (nI i + 1).toNatClampNeg = σ.1 1000003 (nI i + 1).toNatClampNeg := k2 _ _ (by omega)
  refine zCl.use (c_X9_best (σz.1 1000003 (nI i + 1).toNatClampNeg) N σz (by rw [e1]; exact k3)) (Nat.le_of_ble_eq_true rfl) ?_
  rintro _ σy ⟨rfl, hy⟩
  have k6 : LWs (U + 500) σy := by
    rw [hy, e1]
    exact k5
  refine And.intro (fun _ => hk σy k6) (fun y => absurd ?_ y)
  rw [e1]
  exact k4
set_option maxRecDepth 100000 in
set_option maxHeartbeats 1000000 in
theorem lc_25 (hv : lwV L i) (hN : 200000 < N) (hU : U ≤ 299000) (h : LWs U σ) (hk : lwN L i (U + 500)) : zWp 200 zall 501 309 lwQ zall 501 999 (lwL L i) [] σ := by
  obtain ⟨k1, k2, k3, k4, k5⟩ := pr2_use h (fun τ h => pr_bests (N := N) (x1 := σ.1 1000003 (nI i + 1).toNatClampNeg) h hN (by omega))
  have k5 := k5.up (show U ≤ U + 500 by omega)
  refine zvc_sound (cd := kL_law) (cs := [1137]) rfl okL_law 1000 _ _ 999 (zseek kL_law 999) _ _ _ zseek_sub ?_
  refine And.intro hv.1 ?_
  refine zCl.use (c_X8_bestSlice (σ.1 1000003 (nI i + 1).toNatClampNeg) N σ k1) (Nat.le_of_ble_eq_true rfl) ?_
  rintro _ σz ⟨rfl, hz⟩
  rw [← hz] at k2 k3 k4 k5
  refine And.intro hv.1 ?_
  have e1 : σz.1 1000003 (nI i + 1).toNatClampNeg = σ.1 1000003 (nI i + 1).toNatClampNeg := k2 _ _ (by omega)
  refine zCl.use (c_X9_bestSlice (σz.1 1000003 (nI i + 1).toNatClampNeg) N σz (by rw [e1]; exact k3)) (Nat.le_of_ble_eq_true rfl) ?_
  rintro _ σy ⟨rfl, hy⟩
  have k6 : LWs (U + 500) σy := by
    rw [hy, e1]
    exact k5
  refine And.intro (fun _ => hk σy k6) (fun y => absurd ?_ y)
  rw [e1]
  exact k4
set_option maxRecDepth 100000 in
set_option maxHeartbeats 1000000 in
theorem lc_26 (hv : lwV L i) (hN : 200000 < N) (hU : U ≤ 299000) (h : LWs U σ) (hk : lwN L i (U + 500)) : zWp 200 zall 501 309 lwQ zall 501 1022 (lwL L i) [] σ := by
  obtain ⟨k1, k2, k3⟩ := pr_trap (x1 := σ.1 1000003 (nI i + 1).toNatClampNeg) (x2 := σ.1 1000003 (nI i + 2).toNatClampNeg) h.1 (by omega)
  refine zvc_sound (cd := kL_law) (cs := [1137]) rfl okL_law 1000 _ _ 1022 (zseek kL_law 1022) _ _ _ zseek_sub ?_
  refine And.intro hv.1 (And.intro hv.2.1 ?_)
  refine zCl.use (c_X8_trap (σ.1 1000003 (nI i + 1).toNatClampNeg) (σ.1 1000003 (nI i + 2).toNatClampNeg) σ k1) (Nat.le_of_ble_eq_true rfl) ?_
  rintro _ σz ⟨rfl, hz⟩
  subst σz
  refine And.intro hv.1 (And.intro hv.2.1 ?_)
  refine zCl.use (c_X9_trap (σ.1 1000003 (nI i + 1).toNatClampNeg) (σ.1 1000003 (nI i + 2).toNatClampNeg) σ k2) (Nat.le_of_ble_eq_true rfl) ?_
  rintro _ σz ⟨rfl, hz⟩
  subst σz
  exact And.intro (fun _ => hk σ (h.up (by omega))) (fun y => absurd k3 y)
set_option maxRecDepth 100000 in
set_option maxHeartbeats 1000000 in
theorem lc_27 (hv : lwV L i) (hN : 200000 < N) (hU : U ≤ 299000) (h : LWs U σ) (hk : lwN L i (U + 500)) : zWp 200 zall 501 309 lwQ zall 501 1055 (lwL L i) [] σ := by
  obtain ⟨k1, k2, k3, k4, k5⟩ := pr2_use h (fun τ h => pr_law (N := N)  h hN)
  have k5 := k5.up (show U ≤ U + 500 by omega)
  refine zvc_sound (cd := kL_law) (cs := [1137]) rfl okL_law 1000 _ _ 1055 (zseek kL_law 1055) _ _ _ zseek_sub ?_
  refine zCl.use (c_X8_law  N σ k1) (Nat.le_of_ble_eq_true rfl) ?_
  rintro _ σz ⟨rfl, hz⟩
  rw [← hz] at k2 k3 k4 k5
  refine zCl.use (c_X9_law  N σz (k3)) (Nat.le_of_ble_eq_true rfl) ?_
  rintro _ σy ⟨rfl, hy⟩
  have k6 : LWs (U + 500) σy := by
    rw [hy]
    exact k5
  refine And.intro (fun _ => hk σy k6) (fun y => absurd ?_ y)
  exact k4
set_option maxRecDepth 100000 in
set_option maxHeartbeats 1000000 in
theorem lc_28 (hv : lwV L i) (hN : 200000 < N) (hU : U ≤ 299000) (h : LWs U σ) (hk : lwN L i (U + 500)) : zWp 200 zall 501 309 lwQ zall 501 1068 (lwL L i) [] σ := by
  obtain ⟨k1, k2, k3, k4, k5⟩ := pr2_use h (fun τ h => pr_imag (N := N) (x1 := σ.1 1000003 (nI i + 1).toNatClampNeg) h hN)
  have k5 := k5.up (show U ≤ U + 500 by omega)
  refine zvc_sound (cd := kL_law) (cs := [1137]) rfl okL_law 1000 _ _ 1068 (zseek kL_law 1068) _ _ _ zseek_sub ?_
  refine And.intro hv.1 ?_
  refine zCl.use (c_X8_image (σ.1 1000003 (nI i + 1).toNatClampNeg) N σ k1) (Nat.le_of_ble_eq_true rfl) ?_
  rintro _ σz ⟨rfl, hz⟩
  rw [← hz] at k2 k3 k4 k5
  refine And.intro hv.1 ?_
  have e1 : σz.1 1000003 (nI i + 1).toNatClampNeg = σ.1 1000003 (nI i + 1).toNatClampNeg := k2 _ _ (by omega)
  refine zCl.use (c_X9_image (σz.1 1000003 (nI i + 1).toNatClampNeg) N σz (by rw [e1]; exact k3)) (Nat.le_of_ble_eq_true rfl) ?_
  rintro _ σy ⟨rfl, hy⟩
  have k6 : LWs (U + 500) σy := by
    rw [hy, e1]
    exact k5
  refine And.intro (fun _ => hk σy k6) (fun y => absurd ?_ y)
  rw [e1]
  exact k4
set_option maxRecDepth 100000 in
set_option maxHeartbeats 1000000 in
theorem lc_29 (hv : lwV L i) (hN : 200000 < N) (hU : U ≤ 299000) (h : LWs U σ) (hk : lwN L i (U + 500)) : zWp 200 zall 501 309 lwQ zall 501 1091 (lwL L i) [] σ := by
  obtain ⟨k1, k2, k3, k4, k5⟩ := pr2_use h (fun τ h => pr_bac (N := N) (x1 := σ.1 1000003 (nI i + 1).toNatClampNeg) h hN)
  have k5 := k5.up (show U ≤ U + 500 by omega)
  refine zvc_sound (cd := kL_law) (cs := [1137]) rfl okL_law 1000 _ _ 1091 (zseek kL_law 1091) _ _ _ zseek_sub ?_
  refine And.intro hv.1 ?_
  refine zCl.use (c_X8_back (σ.1 1000003 (nI i + 1).toNatClampNeg) N σ k1) (Nat.le_of_ble_eq_true rfl) ?_
  rintro _ σz ⟨rfl, hz⟩
  rw [← hz] at k2 k3 k4 k5
  refine And.intro hv.1 ?_
  have e1 : σz.1 1000003 (nI i + 1).toNatClampNeg = σ.1 1000003 (nI i + 1).toNatClampNeg := k2 _ _ (by omega)
  refine zCl.use (c_X9_back (σz.1 1000003 (nI i + 1).toNatClampNeg) N σz (by rw [e1]; exact k3)) (Nat.le_of_ble_eq_true rfl) ?_
  rintro _ σy ⟨rfl, hy⟩
  have k6 : LWs (U + 500) σy := by
    rw [hy, e1]
    exact k5
  refine And.intro (fun _ => hk σy k6) (fun y => absurd ?_ y)
  rw [e1]
  exact k4
set_option maxRecDepth 100000 in
set_option maxHeartbeats 1000000 in
theorem lc_30 (hv : lwV L i) (hN : 200000 < N) (hU : U ≤ 299000) (h : LWs U σ) (hk : lwN L i (U + 500)) : zWp 200 zall 501 309 lwQ zall 501 1114 (lwL L i) [] σ := by
  obtain ⟨k1, k2, k3⟩ := pr_about (N := N) (x1 := σ.1 1000003 (nI i + 1).toNatClampNeg) h.1 (by omega)
  refine zvc_sound (cd := kL_law) (cs := [1137]) rfl okL_law 1000 _ _ 1114 (zseek kL_law 1114) _ _ _ zseek_sub ?_
  refine And.intro hv.1 ?_
  refine zCl.use (c_X8_about (σ.1 1000003 (nI i + 1).toNatClampNeg) N σ k1) (Nat.le_of_ble_eq_true rfl) ?_
  rintro _ σz ⟨rfl, hz⟩
  subst σz
  refine And.intro hv.1 ?_
  refine zCl.use (c_X9_about (σ.1 1000003 (nI i + 1).toNatClampNeg) N σ k2) (Nat.le_of_ble_eq_true rfl) ?_
  rintro _ σz ⟨rfl, hz⟩
  subst σz
  exact And.intro (fun _ => hk σ (h.up (by omega))) (fun y => absurd k3 y)
end IS
