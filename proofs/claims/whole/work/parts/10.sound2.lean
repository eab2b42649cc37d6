/-! each instruction: what reads or writes the cells -/
section ZJ2
variable {G : zG} {d y nL nx0 nxE : Nat} {p : Program} {l : Launch} {e : Env} {R : Room} {s : State} {m : MethodId} {args : Array Value} {below : List Frame} {meth : Method} {c : Code} {Qm : State → Prop} {cp : Nat → Bool} {nx pc : Nat} {ls : List (Option zV)} {st : List zV} {σ σ1 : zS} {H H1 : Heap} {locs : List Loc}
theorem zW_size {cells slots : Nat} {Q : State → Prop} {g : JFrame} (k : H.size ≤ s.heap.size + cells → W p l e R s m args below meth c H locs cells slots Q g) : W p l e R s m args below meth c H locs cells slots Q g := fun T hT X => k (by rw [← hT]; exact X.heapSize) T hT X
theorem zobj {o t n : Nat} (h : zat G nx o t n) (ht : t < 10) : o < nx ∧ zlay o = (t, n) := h.elim id (fun h => h.elim (fun ⟨i, _, _, h1, _⟩ => by omega) (fun ⟨i, _, h1⟩ => by omega))
theorem zarr {o t n : Nat} (h : zat G nx o t n) (ht : t < 26) : o < nx ∧ zlay o = (t, n) := h.elim id (fun h => h.elim (fun ⟨i, _, _, h1, _⟩ => by omega) (fun ⟨i, _, h1⟩ => by omega))
theorem zrho_lt {o : Nat} (h : o < nx) (hn : nx ≤ 501) : zrho G o = G.2.2.1 + o := by
  unfold zrho
  rw [if_pos (by omega)]
theorem zwf_N {o t n : Nat} {r : vw_C} (ho : o < 501) (h : zlay o = (t, n)) (hr : zcl[t]? = some r) : r.2.2 = n := by
  have h1 := List.all_eq_true.mp zwf_ck o (List.mem_range.mpr ho)
  rw [h] at h1
  dsimp only at h1
  have ht : Nat.blt t 10 = true := by simp [Nat.blt_eq, zcl_lt hr]
  rw [ht, hr] at h1
  dsimp only [cond_true] at h1
  simp only [Bool.and_eq_true] at h1
  exact zbeq h1.1
theorem zwf_F {o t n k : Nat} (ho : o < 501) (h : zlay o = (t, n)) (ht : t < 10) (hk : k < n) (h1 : (zfk t k).1 = 1) : zlay (o + (zfk t k).2.2.2) = ((zfk t k).2.1, (zfk t k).2.2.1) := by
  have h2 := List.all_eq_true.mp zwf_ck o (List.mem_range.mpr ho)
  rw [h] at h2
  dsimp only at h2
  have hb : Nat.blt t 10 = true := by simp [Nat.blt_eq, ht]
  rw [hb] at h2
  dsimp only [cond_true] at h2
  simp only [Bool.and_eq_true] at h2
  have h3 := List.all_eq_true.mp h2.2 k (List.mem_range.mpr hk)
  rw [h1] at h3
  dsimp only [cond_true, Nat.beq] at h3
  simp only [Bool.and_eq_true, decide_eq_true_eq] at h3
  exact h3.2
theorem zlo_size (hP : va_P G.1 zcl (zws G cp σ nx) H) (h0 : G.2.2.1 ≤ H.size) : G.2.2.1 + nx ≤ H.size := by
  cases nx with
  | zero => exact h0
  | succ n =>
    have := (hP n _ (zws_get (Nat.lt_succ_self n))).lt
    dsimp only at this
    omega
/-- behind a store: the same cells, other contents -/
theorem zRep.to (hR : zRep G cp nx σ H) (hP : va_P G.1 zcl (zws G cp σ1 nx) H1) (hlo : G.2.2.1 ≤ H1.size) (hhi : H1.size ≤ G.2.2.1 + nx) (h2 : ∀ a k b, a < nx → σ1.2 a k = b + 1 → b < nx ∨ (1000000 ≤ b ∧ b < 1000003)) (h1 : ∀ i j, i < 4 → σ1.1 (1000000 + i) j = σ.1 (1000000 + i) j) : zRep G cp nx σ1 H1 :=
  ⟨Nat.le_antisymm hhi (zlo_size hP hlo), hR.2.1, hP, h2, hR.2.2.2.2.1, fun i hi j hj => by rw [h1 i j hi]; exact hR.2.2.2.2.2 i hi j hj⟩
theorem zfv_I {a c0 k j : Nat} {x : Int32} (h0 : (zfk c0 k).1 = 0) : (if j = k then Value.int x else zfv G cp σ a c0 j) = zfv G cp (zuI σ a k x) a c0 j := by
  by_cases hj : j = k
  · subst hj
    rw [if_pos rfl]
    simp [zfv, h0, zuI]
  · rw [if_neg hj]
    simp [zfv, zuI, hj]
theorem zfv_R {a c0 k j n : Nat} (h0 : (zfk c0 k).1 ≠ 0) (h1 : (zfk c0 k).1 = 1 → cp a = false) : (if j = k then va_rf (zrf G n) else zfv G cp σ a c0 j) = zfv G cp (zuR σ a k n) a c0 j := by
  by_cases hj : j = k
  · subst hj
    rw [if_pos rfl]
    unfold zfv
    generalize (zfk c0 j).1 = q at h0 h1
    match q, h0, h1 with
    | 0, h0, _ => exact absurd rfl h0
    | 1, _, h1 => simp [h1 rfl, zuR]
    | q + 2, _, _ => simp [zuR]
  · rw [if_neg hj]
    simp [zfv, zuR, hj]
theorem zj_getI (hC : zCx G d y nx0 nxE p R s m args meth c) (hyo : (zmt y).1.cls = zown (zmo y)) {a b idx t n o : Nat} (hl : zflL.any (fun q => Nat.beq q.1 (zmo y) && Nat.beq q.2.1 idx && Nat.beq q.2.2.1 a && Nat.beq q.2.2.2.1 b) = true) (hk : (zfk a b).1 = 0) (ht : t = a) (hd : decode (zmt y).2.1 pc = .ok (.getfield idx, 3))
    (k : zJ G nL nx0 nxE p l e R s m args below meth c Qm cp nx (pc + 3) ls (.inl (σ.1 o b) :: st) σ) : zJ G nL nx0 nxE p l e R s m args below meth c Qm cp nx pc ls (.inr (t, n, o) :: st) σ := by
  intro h0 hE H locs lsA hR hL hs hS
  obtain ⟨hx, hb, hml, hown, hts, hK, hsz, -⟩ := hC
  rw [hyo] at hown
  obtain ⟨⟨C, T, N⟩, hr, hbr, hw⟩ := zfl_of hl
  subst ht
  have hz0 : zat G nx o t n := hs (.inr (t, n, o)) List.mem_cons_self
  obtain ⟨ho, hly⟩ := zobj hz0 (zcl_lt hr)
  have hN : N = n := zwf_N (Nat.lt_of_lt_of_le ho hR.2.1) hly hr
  subst hN
  have he := zws_get (G := G) (cp := cp) (σ := σ) ho
  rw [zenc_obj hly (zcl_lt hr)] at he
  show W p l e R s m args below meth c H locs _ _ Qm (F0 m pc lsA (.ref (zrho G o) :: st.map (zval G)))
  rw [zrho_lt ho hR.2.1]
  refine va_get hx hb hts (zu_in t _ hr) hown hK.1 hR.2.2.1 o he hr b hbr (hts _ hw) (fun _ h => h) (v := .int (σ.1 o b)) ?_ hd (k h0 hE H locs lsA hR hL (zst_cn trivial (zst_tl hs)) hS)
  rw [List.getElem?_map, List.getElem?_range hbr]
  simp [zfv, hk]
theorem zj_getF (hC : zCx G d y nx0 nxE p R s m args meth c) (hyo : (zmt y).1.cls = zown (zmo y)) {a b idx t n o : Nat} (hl : zflL.any (fun q => Nat.beq q.1 (zmo y) && Nat.beq q.2.1 idx && Nat.beq q.2.2.1 a && Nat.beq q.2.2.2.1 b) = true) (hk : (zfk a b).1 = 1) (ht : t = a) (hcp : cp o = true) (hd : decode (zmt y).2.1 pc = .ok (.getfield idx, 3))
    (k : zJ G nL nx0 nxE p l e R s m args below meth c Qm cp nx (pc + 3) ls (.inr ((zfk a b).2.1, (zfk a b).2.2.1, o + (zfk a b).2.2.2) :: st) σ) : zJ G nL nx0 nxE p l e R s m args below meth c Qm cp nx pc ls (.inr (t, n, o) :: st) σ := by
  intro h0 hE H locs lsA hR hL hs hS
  obtain ⟨hx, hb, hml, hown, hts, hK, hsz, -⟩ := hC
  rw [hyo] at hown
  obtain ⟨⟨C, T, N⟩, hr, hbr, hw⟩ := zfl_of hl
  subst ht
  have hz0 : zat G nx o t n := hs (.inr (t, n, o)) List.mem_cons_self
  obtain ⟨ho, hly⟩ := zobj hz0 (zcl_lt hr)
  have ho5 : o < 501 := Nat.lt_of_lt_of_le ho hR.2.1
  have hN : N = n := zwf_N ho5 hly hr
  subst hN
  have he := zws_get (G := G) (cp := cp) (σ := σ) ho
  rw [zenc_obj hly (zcl_lt hr)] at he
  have hin : o + (zfk t b).2.2.2 < nx := by
    have := hR.2.2.2.2.1 o b ho hcp (by rw [hly]; exact hk)
    rw [hly] at this
    exact this
  show W p l e R s m args below meth c H locs _ _ Qm (F0 m pc lsA (.ref (zrho G o) :: st.map (zval G)))
  rw [zrho_lt ho hR.2.1]
  refine va_get hx hb hts (zu_in t _ hr) hown hK.1 hR.2.2.1 o he hr b hbr (hts _ hw) (fun _ h => h) (v := .ref (zrho G (o + (zfk t b).2.2.2))) ?_ hd (k h0 hE H locs lsA hR hL (zst_cn (Or.inl ⟨hin, zwf_F ho5 hly (zcl_lt hr) hbr hk⟩) (zst_tl hs)) hS)
  rw [List.getElem?_map, List.getElem?_range hbr]
  simp [zfv, hk, hcp]
/-- a cell that a place holds -/
theorem zat_of {b : Nat} (hK : zK G s) (hn : nx ≤ 501) (h : b < nx ∨ (1000000 ≤ b ∧ b < 1000003)) : zat G nx b (zlay b).1 (zlay b).2 := by
  rcases h with h | h
  · exact Or.inl ⟨h, rfl⟩
  · obtain ⟨i, rfl⟩ : ∃ i, b = 1000000 + i := ⟨b - 1000000, by omega⟩
    refine Or.inr (Or.inl ⟨i, by omega, rfl, by rw [zlay_st], ?_⟩)
    rw [zlay_st, hK.2.2.2.2.2.1 i (by omega)]
theorem zj_getM (hC : zCx G d y nx0 nxE p R s m args meth c) (hyo : (zmt y).1.cls = zown (zmo y)) {a b idx t n o : Nat} (hl : zflL.any (fun q => Nat.beq q.1 (zmo y) && Nat.beq q.2.1 idx && Nat.beq q.2.2.1 a && Nat.beq q.2.2.2.1 b) = true) (hk : (zfk a b).1 ≠ 0) (hk1 : (zfk a b).1 = 1 → cp o = false) (ht : t = a) (hne : σ.2 o b ≠ 0) (hd : decode (zmt y).2.1 pc = .ok (.getfield idx, 3))
    (k : ∀ q, σ.2 o b = q + 1 → zJ G nL nx0 nxE p l e R s m args below meth c Qm cp nx (pc + 3) ls (.inr ((zlay q).1, (zlay q).2, q) :: st) σ) : zJ G nL nx0 nxE p l e R s m args below meth c Qm cp nx pc ls (.inr (t, n, o) :: st) σ := by
  intro h0 hE H locs lsA hR hL hs hS
  obtain ⟨hx, hb, hml, hown, hts, hK, hsz, -⟩ := hC
  rw [hyo] at hown
  obtain ⟨⟨C, T, N⟩, hr, hbr, hw⟩ := zfl_of hl
  subst ht
  have hz0 : zat G nx o t n := hs (.inr (t, n, o)) List.mem_cons_self
  obtain ⟨ho, hly⟩ := zobj hz0 (zcl_lt hr)
  have ho5 : o < 501 := Nat.lt_of_lt_of_le ho hR.2.1
  have hN : N = n := zwf_N ho5 hly hr
  subst hN
  have he := zws_get (G := G) (cp := cp) (σ := σ) ho
  rw [zenc_obj hly (zcl_lt hr)] at he
  obtain ⟨q, hq⟩ : ∃ q, σ.2 o b = q + 1 := ⟨σ.2 o b - 1, by omega⟩
  show W p l e R s m args below meth c H locs _ _ Qm (F0 m pc lsA (.ref (zrho G o) :: st.map (zval G)))
  rw [zrho_lt ho hR.2.1]
  refine va_get hx hb hts (zu_in t _ hr) hown hK.1 hR.2.2.1 o he hr b hbr (hts _ hw) (fun _ h => h) (v := .ref (zrho G q)) ?_ hd (k q hq h0 hE H locs lsA hR hL (zst_cn (zat_of hK hR.2.1 (hR.2.2.2.1 o b q ho hq)) (zst_tl hs)) hS)
  rw [List.getElem?_map, List.getElem?_range hbr]
  show some (zfv G cp σ o t b) = _
  unfold zfv
  rw [hq]
  generalize (zfk t b).1 = z at hk hk1
  match z, hk, hk1 with
  | 0, hk, _ => exact absurd rfl hk
  | 1, _, h1 => simp [h1 rfl, zrf, va_rf]
  | z + 2, _, _ => simp [zrf, va_rf]
theorem zj_putI (hC : zCx G d y nx0 nxE p R s m args meth c) (hyo : (zmt y).1.cls = zown (zmo y)) {a b idx t n o : Nat} {x : Int32} (hl : zflL.any (fun q => Nat.beq q.1 (zmo y) && Nat.beq q.2.1 idx && Nat.beq q.2.2.1 a && Nat.beq q.2.2.2.1 b) = true) (hk : (zfk a b).1 = 0) (ht : t = a) (hd : decode (zmt y).2.1 pc = .ok (.putfield idx, 3))
    (k : zJ G nL nx0 nxE p l e R s m args below meth c Qm cp nx (pc + 3) ls st (zuI σ o b x)) : zJ G nL nx0 nxE p l e R s m args below meth c Qm cp nx pc ls (.inl x :: .inr (t, n, o) :: st) σ := by
  intro h0 hE H locs lsA hR hL hs hS
  obtain ⟨hx, hb, hml, hown, hts, hK, hsz, -⟩ := hC
  rw [hyo] at hown
  obtain ⟨⟨C, T, N⟩, hr, hbr, hw⟩ := zfl_of hl
  subst ht
  have hz0 : zat G nx o t n := hs (.inr (t, n, o)) (List.mem_cons_of_mem _ List.mem_cons_self)
  obtain ⟨ho, hly⟩ := zobj hz0 (zcl_lt hr)
  have ho5 : o < 501 := Nat.lt_of_lt_of_le ho hR.2.1
  have hN : N = n := zwf_N ho5 hly hr
  subst hN
  have hf := zfinal hr hbr
  have hty0 := zkind0 hr hbr (Nat.lt_trans hbr (zlen60 hr)) hk
  have he := zws_get (G := G) (cp := cp) (σ := σ) ho
  rw [zenc_obj hly (zcl_lt hr)] at he
  show W p l e R s m args below meth c H locs _ _ Qm (F0 m pc lsA (.int x :: .ref (zrho G o) :: st.map (zval G)))
  rw [zrho_lt ho hR.2.1]
  refine va_put hx hb hts (zu_in t _ hr) (zty t) (zu_ty t _ hr) (zu_nm t _ hr) hown hK.1 hR.2.2.1 zws_D hS o he hr b hbr (hts _ hw) (fun _ h => h) (by rw [hf.1, hk]; rfl) (ty := .int) (by rw [← hty0]; exact zu_ty t _ hr b hbr) rfl rfl (by simpa using hbr) hd (fun H1 locs1 hP hD hS1 => ?_)
  rw [zws_set ho (σ := σ) (σ1 := zuI σ o b x) (fun q _ hne => zenc_congr (zuI_ne hne) rfl) (by
    rw [zenc_obj hly (zcl_lt hr), zmap_set]
    congr 2
    apply List.map_congr_left
    intro j _
    exact zfv_I hk)] at hP
  refine zW_size fun hz => k h0 hE H1 locs1 lsA (hR.to hP (Nat.le_trans (by omega) hS1.1) (by omega) hR.2.2.2.1 (fun i j hi => by
    show (zuI σ o b x).1 (1000000 + i) j = _
    rw [zuI_ne (by omega)])) hL (zst_tl (zst_tl hs)) hS1
theorem zj_putR (hC : zCx G d y nx0 nxE p R s m args meth c) (hyo : (zmt y).1.cls = zown (zmo y)) {a b idx t n o q ft fl : Nat} (hl : zflL.any (fun q => Nat.beq q.1 (zmo y) && Nat.beq q.2.1 idx && Nat.beq q.2.2.1 a && Nat.beq q.2.2.2.1 b) = true) (hk : (zfk a b).1 = 2 ∨ ((zfk a b).1 = 1 ∧ cp o = false ∧ zmo y = a ∧ (zmt y).1.name = "<init>")) (ht : t = a) (hq3 : q < 1000003) (hd : decode (zmt y).2.1 pc = .ok (.putfield idx, 3))
    (k : zJ G nL nx0 nxE p l e R s m args below meth c Qm cp nx (pc + 3) ls st (zuR σ o b (q + 1))) : zJ G nL nx0 nxE p l e R s m args below meth c Qm cp nx pc ls (.inr (ft, fl, q) :: .inr (t, n, o) :: st) σ := by
  intro h0 hE H locs lsA hR hL hs hS
  obtain ⟨hx, hb, hml, hown, hts, hK, hsz, -, -, -, -, hnm, -⟩ := hC
  rw [hyo] at hown
  obtain ⟨⟨C, T, N⟩, hr, hbr, hw⟩ := zfl_of hl
  subst ht
  have hz0 : zat G nx o t n := hs (.inr (t, n, o)) (List.mem_cons_of_mem _ List.mem_cons_self)
  obtain ⟨ho, hly⟩ := zobj hz0 (zcl_lt hr)
  have ho5 : o < 501 := Nat.lt_of_lt_of_le ho hR.2.1
  have hN : N = n := zwf_N ho5 hly hr
  subst hN
  have hf := zfinal hr hbr
  have h60 : b < 60 := Nat.lt_trans hbr (zlen60 hr)
  have hqz : zat G nx q ft fl := hs (.inr (ft, fl, q)) List.mem_cons_self
  have hqv : q < nx ∨ (1000000 ≤ q ∧ q < 1000003) := hqz.elim (fun h => Or.inl h.1) (fun h => h.elim (fun ⟨i, h1, h2, _⟩ => Or.inr (by omega)) (fun ⟨i, h1, h2⟩ => by omega))
  have he := zws_get (G := G) (cp := cp) (σ := σ) ho
  rw [zenc_obj hly (zcl_lt hr)] at he
  have key : ∀ (H1 : Heap) (locs1 : List Loc), va_P G.1 zcl ((zws G cp σ nx).set o (G.2.2.1 + o, .inr (t, ((List.range N).map (zfv G cp σ o t)).set b (.ref (zrho G q))))) H1 → va_S (zA G) s.heap H1 locs1 → W p l e R s m args below meth c H1 locs1 (nx - nx0) (zsl nx - zsl nx0) Qm (F0 m (pc + 3) lsA (st.map (zval G))) := by
    intro H1 locs1 hP hS1
    rw [zws_set ho (σ := σ) (σ1 := zuR σ o b (q + 1)) (fun z _ hne => zenc_congr rfl (zuR_ne hne)) (by
      rw [zenc_obj hly (zcl_lt hr), zmap_set]
      congr 2
      apply List.map_congr_left
      intro j _
      have hz := zfv_R (G := G) (cp := cp) (σ := σ) (a := o) (c0 := t) (k := b) (j := j) (n := q + 1) (by rcases hk with h | h <;> omega) (fun h1 => hk.elim (fun h => absurd (h1.symm.trans h) (by decide)) (fun h => h.2.1))
      rw [← hz]
      rfl)] at hP
    refine zW_size fun hz => k h0 hE H1 locs1 lsA (hR.to hP (Nat.le_trans (by omega) hS1.1) (by omega) (fun z j w hzn hzw => ?_) (fun i j hi => rfl)) hL (zst_tl (zst_tl hs)) hS1
    rw [zuR_at] at hzw
    by_cases hc : z = o ∧ j = b
    · rw [if_pos hc] at hzw
      have : w = q := by omega
      rw [this]
      exact hqv
    · rw [if_neg hc] at hzw
      exact hR.2.2.2.1 z j w hzn hzw
  show W p l e R s m args below meth c H locs _ _ Qm (F0 m pc lsA (.ref (zrho G q) :: .ref (zrho G o) :: st.map (zval G)))
  rw [zrho_lt ho hR.2.1]
  have hnar : narrow (zty t b) (.ref (zrho G q)) = .ref (zrho G q) ∧ fits (zty t b) (.ref (zrho G q)) = true := by
    rcases zkindR hr hbr h60 (by rcases hk with h | h <;> omega) with ⟨z, hz⟩ | ⟨z, hz⟩ <;> (rw [hz]; exact ⟨rfl, rfl⟩)
  rcases hk with hk | ⟨hk, hcp, hown2, hini⟩
  · exact va_put hx hb hts (zu_in t _ hr) (zty t) (zu_ty t _ hr) (zu_nm t _ hr) hown hK.1 hR.2.2.1 zws_D hS o he hr b hbr (hts _ hw) (fun _ h => h) (by rw [hf.1, hk]; rfl) (zu_ty t _ hr b hbr) hnar.1 hnar.2 (by simpa using hbr) hd (fun H1 locs1 hP hD hS1 => key H1 locs1 hP hS1)
  · exact va_putF hx hb hts (zu_in t _ hr) (zty t) (zu_ty t _ hr) (zu_nm t _ hr) hown hK.1 hR.2.2.1 zws_D hS o he hr b hbr (hts _ hw) (fun _ h => h) (by rw [hf.1, hk]; rfl) (by rw [hnm]; exact hini) (by rw [hf.2.1, hf.2.2, hown2]) (zu_ty t _ hr b hbr) hnar.1 hnar.2 (by simpa using hbr) hd (fun H1 locs1 hP hD hS1 => key H1 locs1 hP hS1)
end ZJ2
