/-! worlds of the pure machine -/
section ZW
variable {G : zG} {cp : Nat → Bool} {σ σ1 : zS} {nx a k : Nat}
theorem zws_get (h : a < nx) : (zws G cp σ nx)[a]? = some (G.2.2.1 + a, zenc G cp σ a) := by
  simp [zws, List.getElem?_map, List.getElem?_range h]
theorem zws_len : (zws G cp σ nx).length = nx := by simp [zws]
theorem zws_lt {q : Nat × va_E} (h : (zws G cp σ nx)[k]? = some q) : k < nx := by
  have := (List.getElem?_eq_some_iff.mp h).1
  rwa [zws_len] at this
theorem zws_eq {q : Nat × va_E} (h : (zws G cp σ nx)[k]? = some q) : q = (G.2.2.1 + k, zenc G cp σ k) := by
  rw [zws_get (zws_lt h)] at h
  exact (Option.some.inj h).symm
theorem zws_set (h : a < nx) (ho : ∀ b, b < nx → b ≠ a → zenc G cp σ1 b = zenc G cp σ b) {e : va_E} (he : e = zenc G cp σ1 a) : (zws G cp σ nx).set a (G.2.2.1 + a, e) = zws G cp σ1 nx := by
  subst he
  apply List.ext_getElem?
  intro k
  rw [List.getElem?_set]
  by_cases hk : a = k
  · subst hk
    rw [if_pos rfl, if_pos (by rw [zws_len]; exact h), zws_get h]
  · rw [if_neg hk]
    by_cases hn : k < nx
    · rw [zws_get hn, zws_get hn, ho k hn (Ne.symm hk)]
    · rw [List.getElem?_eq_none (by rw [zws_len]; omega), List.getElem?_eq_none (by rw [zws_len]; omega)]
theorem zws_push : zws G cp σ (nx + 1) = zws G cp σ nx ++ [(G.2.2.1 + nx, zenc G cp σ nx)] := by simp [zws, List.range_succ]
theorem zws_congr (h : ∀ b, b < nx → zenc G cp σ1 b = zenc G cp σ b) : zws G cp σ1 nx = zws G cp σ nx := by
  unfold zws
  apply List.map_congr_left
  intro b hb
  rw [h b (List.mem_range.mp hb)]
theorem zws_D : va_D (zA G) (zws G cp σ nx) := by
  refine ⟨fun i j p q hi hj e => ?_, fun k q hk => ?_⟩
  · rw [zws_eq hi, zws_eq hj] at e
    exact Nat.add_left_cancel e
  · rw [zws_eq hk]
    exact Nat.le_add_right _ _
theorem zenc_congr {b : Nat} (h1 : σ1.1 b = σ.1 b) (h2 : σ1.2 b = σ.2 b) : zenc G cp σ1 b = zenc G cp σ b := by
  have hf : zfv G cp σ1 b (zlay b).1 = zfv G cp σ b (zlay b).1 := by
    funext j
    simp only [zfv, h1, h2]
  simp only [zenc, h1, h2, hf]
theorem zuI_ne {b : Nat} {x : Int32} (h : b ≠ a) : (zuI σ a k x).1 b = σ.1 b := by
  funext j
  simp [zuI, h]
theorem zuI_self {x : Int32} : (zuI σ a k x).1 a = upd (σ.1 a) k x := by
  funext j
  simp [zuI, upd]
theorem zuR_ne {b n : Nat} (h : b ≠ a) : (zuR σ a k n).2 b = σ.2 b := by
  funext j
  simp [zuR, h]
theorem zuR_at {b j n : Nat} : (zuR σ a k n).2 b j = if b = a ∧ j = k then n else σ.2 b j := rfl
theorem zu0_ne {b : Nat} (h : b ≠ a) : (zu0 σ a).1 b = σ.1 b ∧ (zu0 σ a).2 b = σ.2 b := by
  constructor <;> (funext j; simp [zu0, h])
theorem zcpy_ne {b src sp dp n : Nat} (h : b ≠ a) : (zcpy σ src a sp dp n).1 b = σ.1 b := by
  funext j
  simp [zcpy, h]
theorem zcpy_self {src sp dp n : Nat} : (zcpy σ src a sp dp n).1 a = va_cpy (σ.1 src) (σ.1 a) sp dp n := by
  funext j
  simp [zcpy]
theorem zmap_set {N : Nat} {f : Nat → Value} {v : Value} : ((List.range N).map f).set k v = (List.range N).map (fun j => if j = k then v else f j) := by
  apply List.ext_getElem?
  intro j
  rw [List.getElem?_set]
  by_cases hj : k = j
  · subst hj
    by_cases hN : k < N
    · simp [hN]
    · simp [hN]
  · by_cases hN : j < N
    · simp [hj, hN, Ne.symm hj]
    · simp [hj, hN]
theorem zenc_obj {t N : Nat} (h : zlay a = (t, N)) (ht : t < 10) : zenc G cp σ a = .inr (t, (List.range N).map (zfv G cp σ a t)) := by
  simp [zenc, h, ht]
theorem zenc_arr {t N : Nat} (h : zlay a = (t, N)) (h1 : ¬ t < 10) (h2 : t < 23) : zenc G cp σ a = .inl (G.2.1 (t - 20), N, .inl (σ.1 a)) := by
  simp [zenc, h, h1, h2]
theorem zenc_ref {t N : Nat} (h : zlay a = (t, N)) (h1 : ¬ t < 23) : zenc G cp σ a = .inl (G.2.1 (t - 20), N, .inr (.inr (.inr (.inr (fun j => zrf G (σ.2 a j)))))) := by
  unfold zenc
  rw [h]
  dsimp only
  rw [if_neg (by omega : ¬ t < 10), if_neg h1]
end ZW
set_option maxRecDepth 100000 in
theorem zwf_ck : (List.range 501).all (fun a => bif Nat.blt (zlay a).1 10 then (match zcl[(zlay a).1]? with | some r => Nat.beq r.2.2 (zlay a).2 | none => false) && (List.range (zlay a).2).all (fun k => bif Nat.beq (zfk (zlay a).1 k).1 1 then (Nat.blt (a + (zfk (zlay a).1 k).2.2.2) 501 && decide (zlay (a + (zfk (zlay a).1 k).2.2.2) = ((zfk (zlay a).1 k).2.1, (zfk (zlay a).1 k).2.2.1))) else true) else (Nat.ble 20 (zlay a).1 && Nat.ble (zlay a).1 25)) = true := by decide +kernel
set_option maxRecDepth 100000 in
theorem zlen_ck : (List.range 501).all (fun a => Nat.ble (zlay a).2 150000) = true := by decide +kernel
theorem zlayL_len : zlayL.length = 501 := by decide +kernel
theorem zfk_ck : ((List.range 10).all (fun c => match zcl[c]? with | some r => (List.range 60).all (fun k => bif Nat.blt k r.2.2 then (bif Nat.beq (zfk c k).1 0 then decide (zty c k = .int) && decide ((r.2.1 k).2.2.2 = false) else bif Nat.beq (zfk c k).1 1 then decide ((r.2.1 k).2.2.2 = true) else Nat.beq (zfk c k).1 2 && decide ((r.2.1 k).2.2.2 = false)) else Nat.beq (zfk c k).1 0) | none => false)) = true := by decide +kernel
theorem zlay_out {a : Nat} (h : ¬ a < 501) (h2 : a < 1000000) : zlay a = (99, 0) := by
  unfold zlay
  rw [if_pos h2, List.getD_eq_getElem?_getD, List.getElem?_eq_none (by rw [zlayL_len]; omega)]
  rfl
theorem zlay_st {i : Nat} : zlay (1000000 + i) = (26, zstn i) := by
  unfold zlay
  rw [if_neg (by omega), Nat.add_sub_cancel_left]
