/-! each instruction: arrays, new cells, the library's own -/
theorem zsl_succ (n : Nat) : zsl (n + 1) = zsl n + (zlay n).2 := by simp [zsl, List.range_succ]
theorem zsl_mono {a b : Nat} (h : a ≤ b) : zsl a ≤ zsl b := by
  induction h with
  | refl => exact Nat.le_refl _
  | step _ ih => exact Nat.le_trans ih (by rw [zsl_succ]; exact Nat.le_add_right _ _)
theorem zlay_in {a t n : Nat} (h : zlay a = (t, n)) (ht : t ≠ 99) (ha : a < 1000000) : a < 501 := by
  by_cases hq : a < 501
  · exact hq
  · rw [zlay_out hq ha] at h
    cases h
    exact absurd rfl ht
theorem zlen_le {a t n : Nat} (h : zlay a = (t, n)) (ha : a < 501) : n ≤ 150000 := by
  have h1 := List.all_eq_true.mp zlen_ck a (List.mem_range.mpr ha)
  rw [h] at h1
  exact Nat.le_of_ble_eq_true h1
theorem ztag_le {a t n : Nat} (h : zlay a = (t, n)) (ha : a < 501) : t ≤ 25 := by
  have h1 := List.all_eq_true.mp zwf_ck a (List.mem_range.mpr ha)
  rw [h] at h1
  dsimp only at h1
  cases hb : Nat.blt t 10 with
  | true =>
    have := Nat.le_of_ble_eq_true hb
    omega
  | false =>
    rw [hb] at h1
    dsimp only [cond_false] at h1
    simp only [Bool.and_eq_true] at h1
    exact Nat.le_of_ble_eq_true h1.2
section ZJ3
variable {G : zG} {d y nL nx0 nxE : Nat} {p : Program} {l : Launch} {e : Env} {R : Room} {s : State} {m : MethodId} {args : Array Value} {below : List Frame} {meth : Method} {c : Code} {Qm : State → Prop} {cp : Nat → Bool} {nx pc : Nat} {ls : List (Option zV)} {st : List zV} {σ σ1 : zS} {H H1 : Heap} {locs : List Loc}
theorem zst26 {o n : Nat} (hR : zRep G cp nx σ H) (h : zat G nx o 26 n) : ∃ i, i < 4 ∧ o = 1000000 + i ∧ n = G.2.2.2.2.1 i := by
  rcases h with h | ⟨i, h1, h2, -, h4⟩ | ⟨i, h1, h2⟩
  · have := ztag_le h.2 (Nat.lt_of_lt_of_le h.1 hR.2.1)
    omega
  · exact ⟨i, h1, h2, h4⟩
  · omega
theorem zst27 {o n : Nat} (hR : zRep G cp nx σ H) (h : zat G nx o 27 n) : ∃ i, i < 14 ∧ o = 1000000 + (40 + i) ∧ n = zslenL.getD i 0 := by
  rcases h with h | ⟨i, h1, h2, h3, h4⟩ | ⟨i, h1, h2 | h2⟩
  · have := ztag_le h.2 (Nat.lt_of_lt_of_le h.1 hR.2.1)
    omega
  · omega
  · omega
  · exact ⟨i, h1, by omega, h2.2.2⟩
theorem zst30 {o n : Nat} (hR : zRep G cp nx σ H) (h : zat G nx o 30 n) : n < 14 ∧ o = 1000000 + (10 + n) := by
  rcases h with h | ⟨i, h1, h2, h3, h4⟩ | ⟨i, h1, h2 | h2⟩
  · have := ztag_le h.2 (Nat.lt_of_lt_of_le h.1 hR.2.1)
    omega
  · omega
  · omega
  · omega
theorem zrho_st {i : Nat} : zrho G (1000000 + i) = G.2.2.2.1 i := by
  unfold zrho
  rw [if_neg (by omega), Nat.add_sub_cancel_left]
theorem zj_iald (hC : zCx G d y nx0 nxE p R s m args meth c) {t n o : Nat} {i : Int32} (ht : t = 20 ∨ t = 26) (hin : vp_in i n) (hd : decode (zmt y).2.1 pc = .ok (.iaload, 1))
    (k : zJ G nL nx0 nxE p l e R s m args below meth c Qm cp nx (pc + 1) ls (.inl (σ.1 o i.toNatClampNeg) :: st) σ) : zJ G nL nx0 nxE p l e R s m args below meth c Qm cp nx pc ls (.inl i :: .inr (t, n, o) :: st) σ := by
  intro h0 hE H locs lsA hR hL hs hS
  obtain ⟨hx, hb, hml, hown, hts, hK, hsz, -⟩ := hC
  have hz0 : zat G nx o t n := hs (.inr (t, n, o)) (List.mem_cons_of_mem _ List.mem_cons_self)
  show W p l e R s m args below meth c H locs _ _ Qm (F0 m pc lsA (.int i :: .ref (zrho G o) :: st.map (zval G)))
  rcases ht with rfl | rfl
  · obtain ⟨ho, hly⟩ := zarr hz0 (by decide)
    have he := zws_get (G := G) (cp := cp) (σ := σ) ho
    rw [zenc_arr hly (by decide) (by decide)] at he
    rw [zrho_lt ho hR.2.1]
    exact va_iald hx hb hK.1 hR.2.2.1 o 0 he rfl hin hd (k h0 hE H locs lsA hR hL (zst_cn trivial (zst_tl (zst_tl hs))) hS)
  · obtain ⟨j, hj, rfl, rfl⟩ := zst26 hR hz0
    rw [zrho_st]
    have hlt : i.toNatClampNeg < G.2.2.2.2.1 j := Nat.not_le.mp fun q => hin (Or.inr q)
    exact va_ti hx hb (hK.2.2.2.1 j hj) hS hin (by show Value.int _ = Value.int _; rw [hR.2.2.2.2.2 j hj _ hlt]) hd (k h0 hE H locs lsA hR hL (zst_cn trivial (zst_tl (zst_tl hs))) hS)
theorem zj_bald (hC : zCx G d y nx0 nxE p R s m args meth c) {t n o : Nat} {i : Int32} (ht : t = 21 ∨ t = 22) (hin : vp_in i n) (hd : decode (zmt y).2.1 pc = .ok (.baload, 1))
    (k : zJ G nL nx0 nxE p l e R s m args below meth c Qm cp nx (pc + 1) ls (.inl (σ.1 o i.toNatClampNeg) :: st) σ) : zJ G nL nx0 nxE p l e R s m args below meth c Qm cp nx pc ls (.inl i :: .inr (t, n, o) :: st) σ := by
  intro h0 hE H locs lsA hR hL hs hS
  obtain ⟨hx, hb, hml, hown, hts, hK, hsz, -⟩ := hC
  have hz0 : zat G nx o t n := hs (.inr (t, n, o)) (List.mem_cons_of_mem _ List.mem_cons_self)
  show W p l e R s m args below meth c H locs _ _ Qm (F0 m pc lsA (.int i :: .ref (zrho G o) :: st.map (zval G)))
  rcases ht with rfl | rfl
  · obtain ⟨ho, hly⟩ := zarr hz0 (by decide)
    have he := zws_get (G := G) (cp := cp) (σ := σ) ho
    rw [zenc_arr hly (by decide) (by decide)] at he
    rw [zrho_lt ho hR.2.1]
    exact va_bald hx hb hK.1 hR.2.2.1 o 1 he rfl hin hd (k h0 hE H locs lsA hR hL (zst_cn trivial (zst_tl (zst_tl hs))) hS)
  · obtain ⟨ho, hly⟩ := zarr hz0 (by decide)
    have he := zws_get (G := G) (cp := cp) (σ := σ) ho
    rw [zenc_arr hly (by decide) (by decide)] at he
    rw [zrho_lt ho hR.2.1]
    exact va_zald hx hb hK.1 hR.2.2.1 o 2 he rfl hin hd (k h0 hE H locs lsA hR hL (zst_cn trivial (zst_tl (zst_tl hs))) hS)
theorem zj_bald27 (hC : zCx G d y nx0 nxE p R s m args meth c) {n o : Nat} {i : Int32} (hin : vp_in i n) (hd : decode (zmt y).2.1 pc = .ok (.baload, 1))
    (k : zJ G nL nx0 nxE p l e R s m args below meth c Qm cp nx (pc + 1) ls (.inl ((zsbytL.getD (o - 1000040) []).getD i.toNatClampNeg 0) :: st) σ) : zJ G nL nx0 nxE p l e R s m args below meth c Qm cp nx pc ls (.inl i :: .inr (27, n, o) :: st) σ := by
  intro h0 hE H locs lsA hR hL hs hS
  obtain ⟨hx, hb, hml, hown, hts, hK, hsz, -⟩ := hC
  have hz0 : zat G nx o 27 n := hs (.inr (27, n, o)) (List.mem_cons_of_mem _ List.mem_cons_self)
  show W p l e R s m args below meth c H locs _ _ Qm (F0 m pc lsA (.int i :: .ref (zrho G o) :: st.map (zval G)))
  obtain ⟨j, hj, rfl, rfl⟩ := zst27 hR hz0
  rw [zrho_st (i := 40 + j)]
  rw [show 1000000 + (40 + j) - 1000040 = j by omega] at k
  exact va_tb hx hb (hK.2.2.2.2.2.2.2.2.1.1 j hj).2.2.2 hS hin rfl hd (k h0 hE H locs lsA hR hL (zst_cn trivial (zst_tl (zst_tl hs))) hS)
/-- behind a store into an array of ints -/
theorem zback {t n o j : Nat} {x : Int32} {lsA : Array Slot} {pc1 : Nat} (hsz : s.heap.size = G.2.2.1 + nx0) (h0 : nx0 ≤ nx) (hE : nx ≤ nxE) (hR : zRep G cp nx σ H) (hL : zLc G nx nL ls lsA) (hs : ∀ v ∈ st, zok G nx v) (ho : o < nx) (hly : zlay o = (t, n)) (h1 : ¬ t < 10) (h2 : t < 23)
    (k : zJ G nL nx0 nxE p l e R s m args below meth c Qm cp nx pc1 ls st (zuI σ o j x)) (H1 : Heap) (locs1 : List Loc) (hP : va_P G.1 zcl ((zws G cp σ nx).set o (G.2.2.1 + o, .inl (G.2.1 (t - 20), n, .inl (upd (σ.1 o) j x)))) H1) (hS1 : va_S (zA G) s.heap H1 locs1) : W p l e R s m args below meth c H1 locs1 (nx - nx0) (zsl nx - zsl nx0) Qm (F0 m pc1 lsA (st.map (zval G))) := by
  rw [zws_set ho (σ := σ) (σ1 := zuI σ o j x) (fun q _ hne => zenc_congr (zuI_ne hne) rfl) (by rw [zenc_arr hly h1 h2, zuI_self])] at hP
  have ho5 : o < 501 := Nat.lt_of_lt_of_le ho hR.2.1
  refine zW_size fun hz => k h0 hE H1 locs1 lsA (hR.to hP (Nat.le_trans (by omega) hS1.1) (by omega) hR.2.2.2.1 (fun i j hi => by
    show (zuI σ o _ x).1 (1000000 + i) j = _
    rw [zuI_ne (by omega)])) hL hs hS1
theorem zj_iast (hC : zCx G d y nx0 nxE p R s m args meth c) {t n o : Nat} {i x : Int32} (ht : t = 20) (hin : vp_in i n) (hd : decode (zmt y).2.1 pc = .ok (.iastore, 1))
    (k : zJ G nL nx0 nxE p l e R s m args below meth c Qm cp nx (pc + 1) ls st (zuI σ o i.toNatClampNeg x)) : zJ G nL nx0 nxE p l e R s m args below meth c Qm cp nx pc ls (.inl x :: .inl i :: .inr (t, n, o) :: st) σ := by
  intro h0 hE H locs lsA hR hL hs hS
  obtain ⟨hx, hb, hml, hown, hts, hK, hsz, -⟩ := hC
  have hz0 : zat G nx o t n := hs (.inr (t, n, o)) (List.mem_cons_of_mem _ (List.mem_cons_of_mem _ List.mem_cons_self))
  subst ht
  obtain ⟨ho, hly⟩ := zarr hz0 (by decide)
  show W p l e R s m args below meth c H locs _ _ Qm (F0 m pc lsA (.int x :: .int i :: .ref (zrho G o) :: st.map (zval G)))
  have he := zws_get (G := G) (cp := cp) (σ := σ) ho
  rw [zenc_arr hly (by decide) (by decide)] at he
  rw [zrho_lt ho hR.2.1]
  exact va_iast hx hb hK.1 hR.2.2.1 zws_D hS o 0 he rfl hin hd (fun H1 locs1 hP hD hS1 => zback hsz h0 hE hR hL (zst_tl (zst_tl (zst_tl hs))) ho hly (by decide) (by decide) k H1 locs1 hP hS1)
theorem zj_bast (hC : zCx G d y nx0 nxE p R s m args meth c) {t n o : Nat} {i x : Int32} (ht : t = 21) (hin : vp_in i n) (hd : decode (zmt y).2.1 pc = .ok (.bastore, 1))
    (k : zJ G nL nx0 nxE p l e R s m args below meth c Qm cp nx (pc + 1) ls st (zuI σ o i.toNatClampNeg (vp_nar .byte x))) : zJ G nL nx0 nxE p l e R s m args below meth c Qm cp nx pc ls (.inl x :: .inl i :: .inr (t, n, o) :: st) σ := by
  intro h0 hE H locs lsA hR hL hs hS
  obtain ⟨hx, hb, hml, hown, hts, hK, hsz, -⟩ := hC
  have hz0 : zat G nx o t n := hs (.inr (t, n, o)) (List.mem_cons_of_mem _ (List.mem_cons_of_mem _ List.mem_cons_self))
  subst ht
  obtain ⟨ho, hly⟩ := zarr hz0 (by decide)
  show W p l e R s m args below meth c H locs _ _ Qm (F0 m pc lsA (.int x :: .int i :: .ref (zrho G o) :: st.map (zval G)))
  have he := zws_get (G := G) (cp := cp) (σ := σ) ho
  rw [zenc_arr hly (by decide) (by decide)] at he
  rw [zrho_lt ho hR.2.1]
  exact va_bast hx hb hK.1 hR.2.2.1 zws_D hS o 1 he rfl hin hd (fun H1 locs1 hP hD hS1 => zback hsz h0 hE hR hL (zst_tl (zst_tl (zst_tl hs))) ho hly (by decide) (by decide) k H1 locs1 hP hS1)
theorem zj_zast (hC : zCx G d y nx0 nxE p R s m args meth c) {t n o : Nat} {i x : Int32} (ht : t = 22) (hin : vp_in i n) (hd : decode (zmt y).2.1 pc = .ok (.bastore, 1))
    (k : zJ G nL nx0 nxE p l e R s m args below meth c Qm cp nx (pc + 1) ls st (zuI σ o i.toNatClampNeg (vp_nar .boolean x))) : zJ G nL nx0 nxE p l e R s m args below meth c Qm cp nx pc ls (.inl x :: .inl i :: .inr (t, n, o) :: st) σ := by
  intro h0 hE H locs lsA hR hL hs hS
  obtain ⟨hx, hb, hml, hown, hts, hK, hsz, -⟩ := hC
  have hz0 : zat G nx o t n := hs (.inr (t, n, o)) (List.mem_cons_of_mem _ (List.mem_cons_of_mem _ List.mem_cons_self))
  subst ht
  obtain ⟨ho, hly⟩ := zarr hz0 (by decide)
  show W p l e R s m args below meth c H locs _ _ Qm (F0 m pc lsA (.int x :: .int i :: .ref (zrho G o) :: st.map (zval G)))
  have he := zws_get (G := G) (cp := cp) (σ := σ) ho
  rw [zenc_arr hly (by decide) (by decide)] at he
  rw [zrho_lt ho hR.2.1]
  exact va_zast hx hb hK.1 hR.2.2.1 zws_D hS o 2 he rfl hin hd (fun H1 locs1 hP hD hS1 => zback hsz h0 hE hR hL (zst_tl (zst_tl (zst_tl hs))) ho hly (by decide) (by decide) k H1 locs1 hP hS1)
/-- an array of cells: its place among the kinds, and the class of what it holds -/
theorem zcmp {t ft : Nat} (h : (t = 23 ∧ ft = 4) ∨ (t = 24 ∧ ft = 5) ∨ (t = 25 ∧ ft = 7)) : ∃ r : vw_C, zcl[ft]? = some r ∧ (ztys G)[t - 20]? = some (G.2.1 (t - 20), .object r.1) ∧ ¬ t < 23 ∧ t < 26 := by
  rcases h with ⟨rfl, rfl⟩ | ⟨rfl, rfl⟩ | ⟨rfl, rfl⟩
  · exact ⟨_, rfl, rfl, by decide, by decide⟩
  · exact ⟨_, rfl, rfl, by decide, by decide⟩
  · exact ⟨_, rfl, rfl, by decide, by decide⟩
theorem zj_aald (hC : zCx G d y nx0 nxE p R s m args meth c) {t n o : Nat} {i : Int32} (ht : t = 23 ∨ t = 24 ∨ t = 25) (hin : vp_in i n) (hne : σ.2 o i.toNatClampNeg ≠ 0) (hd : decode (zmt y).2.1 pc = .ok (.aaload, 1))
    (k : ∀ q, σ.2 o i.toNatClampNeg = q + 1 → zJ G nL nx0 nxE p l e R s m args below meth c Qm cp nx (pc + 1) ls (.inr ((zlay q).1, (zlay q).2, q) :: st) σ) : zJ G nL nx0 nxE p l e R s m args below meth c Qm cp nx pc ls (.inl i :: .inr (t, n, o) :: st) σ := by
  intro h0 hE H locs lsA hR hL hs hS
  obtain ⟨hx, hb, hml, hown, hts, hK, hsz, -⟩ := hC
  have hz0 : zat G nx o t n := hs (.inr (t, n, o)) (List.mem_cons_of_mem _ List.mem_cons_self)
  obtain ⟨r, -, h2, h3, h4⟩ : ∃ r : vw_C, True ∧ (ztys G)[t - 20]? = some (G.2.1 (t - 20), .object r.1) ∧ ¬ t < 23 ∧ t < 26 := by
    rcases ht with h | h | h
    · obtain ⟨r, -, h⟩ := zcmp (G := G) (t := t) (ft := 4) (Or.inl ⟨h, rfl⟩); exact ⟨r, trivial, h⟩
    · obtain ⟨r, -, h⟩ := zcmp (G := G) (t := t) (ft := 5) (Or.inr (Or.inl ⟨h, rfl⟩)); exact ⟨r, trivial, h⟩
    · obtain ⟨r, -, h⟩ := zcmp (G := G) (t := t) (ft := 7) (Or.inr (Or.inr ⟨h, rfl⟩)); exact ⟨r, trivial, h⟩
  obtain ⟨ho, hly⟩ := zarr hz0 h4
  show W p l e R s m args below meth c H locs _ _ Qm (F0 m pc lsA (.int i :: .ref (zrho G o) :: st.map (zval G)))
  have he := zws_get (G := G) (cp := cp) (σ := σ) ho
  rw [zenc_ref hly h3] at he
  rw [zrho_lt ho hR.2.1]
  obtain ⟨q, hq⟩ : ∃ q, σ.2 o i.toNatClampNeg = q + 1 := ⟨σ.2 o i.toNatClampNeg - 1, by omega⟩
  refine va_aldq hx hb hK.1 hR.2.2.1 o (t - 20) he h2 hin hd ?_
  rw [hq]
  exact k q hq h0 hE H locs lsA hR hL (zst_cn (zat_of hK hR.2.1 (hR.2.2.2.1 o _ q ho hq)) (zst_tl (zst_tl hs))) hS
theorem zj_aast (hC : zCx G d y nx0 nxE p R s m args meth c) {t n o ft fl q : Nat} {i : Int32} (ht : (t = 23 ∧ ft = 4) ∨ (t = 24 ∧ ft = 5) ∨ (t = 25 ∧ ft = 7)) (hin : vp_in i n) (hd : decode (zmt y).2.1 pc = .ok (.aastore, 1))
    (k : zJ G nL nx0 nxE p l e R s m args below meth c Qm cp nx (pc + 1) ls st (zuR σ o i.toNatClampNeg (q + 1))) : zJ G nL nx0 nxE p l e R s m args below meth c Qm cp nx pc ls (.inr (ft, fl, q) :: .inl i :: .inr (t, n, o) :: st) σ := by
  intro h0 hE H locs lsA hR hL hs hS
  obtain ⟨hx, hb, hml, hown, hts, hK, hsz, -⟩ := hC
  have hz0 : zat G nx o t n := hs (.inr (t, n, o)) (List.mem_cons_of_mem _ (List.mem_cons_of_mem _ List.mem_cons_self))
  have hzq : zat G nx q ft fl := hs (.inr (ft, fl, q)) List.mem_cons_self
  obtain ⟨r, hr, h2, h3, h4⟩ := zcmp (G := G) ht
  obtain ⟨ho, hly⟩ := zarr hz0 h4
  obtain ⟨hqn, hqly⟩ := zobj hzq (zcl_lt hr)
  show W p l e R s m args below meth c H locs _ _ Qm (F0 m pc lsA (.ref (zrho G q) :: .int i :: .ref (zrho G o) :: st.map (zval G)))
  have he := zws_get (G := G) (cp := cp) (σ := σ) ho
  rw [zenc_ref hly h3] at he
  have heq := zws_get (G := G) (cp := cp) (σ := σ) hqn
  rw [zenc_obj hqly (zcl_lt hr)] at heq
  have hzr : zrho G q = G.2.2.1 + q := zrho_lt hqn hR.2.1
  rw [zrho_lt ho hR.2.1, hzr]
  refine va_astq hx hb hK.1 hR.2.2.1 zws_D hS o (t - 20) q ft he h2 heq hr hin hd (fun H1 locs1 hP hD hS1 => ?_)
  rw [zws_set ho (σ := σ) (σ1 := zuR σ o i.toNatClampNeg (q + 1)) (fun z _ hne => zenc_congr rfl (zuR_ne hne)) (by
    rw [zenc_ref hly h3]
    congr 7
    funext j
    rw [zuR_at]
    by_cases hj : j = i.toNatClampNeg
    · rw [if_pos ⟨rfl, hj⟩, hj, va_up_self]
      show some (G.2.2.1 + q) = some (zrho G q)
      rw [hzr]
    · rw [if_neg (fun h => hj h.2), va_up_ne _ _ hj])] at hP
  have ho5 : o < 501 := Nat.lt_of_lt_of_le ho hR.2.1
  refine zW_size fun hz => k h0 hE H1 locs1 lsA (hR.to hP (Nat.le_trans (by omega) hS1.1) (by omega) (fun z j w hzn hzw => ?_) (fun i j hi => rfl)) hL (zst_tl (zst_tl (zst_tl hs))) hS1
  rw [zuR_at] at hzw
  by_cases hc : z = o ∧ j = i.toNatClampNeg
  · rw [if_pos hc] at hzw
    exact Or.inl (by omega)
  · rw [if_neg hc] at hzw
    exact hR.2.2.2.1 z j w hzn hzw
theorem zj_alen (hC : zCx G d y nx0 nxE p R s m args meth c) {t n o : Nat} (ht : 20 ≤ t ∧ t ≤ 27) (hd : decode (zmt y).2.1 pc = .ok (.arraylength, 1))
    (k : zJ G nL nx0 nxE p l e R s m args below meth c Qm cp nx (pc + 1) ls (.inl (Int32.ofNat n) :: st) σ) : zJ G nL nx0 nxE p l e R s m args below meth c Qm cp nx pc ls (.inr (t, n, o) :: st) σ := by
  intro h0 hE H locs lsA hR hL hs hS
  obtain ⟨hx, hb, hml, hown, hts, hK, hsz, -⟩ := hC
  have hz0 : zat G nx o t n := hs (.inr (t, n, o)) List.mem_cons_self
  show W p l e R s m args below meth c H locs _ _ Qm (F0 m pc lsA (.ref (zrho G o) :: st.map (zval G)))
  by_cases h26 : t = 26
  · subst h26
    obtain ⟨j, hj, rfl, rfl⟩ := zst26 hR hz0
    rw [zrho_st]
    exact va_tlen hx hb (hK.2.2.2.1 j hj) hS rfl hd (k h0 hE H locs lsA hR hL (zst_cn trivial (zst_tl hs)) hS)
  by_cases h27 : t = 27
  · subst h27
    obtain ⟨j, hj, rfl, rfl⟩ := zst27 hR hz0
    rw [zrho_st (i := 40 + j)]
    exact va_tlen hx hb (hK.2.2.2.2.2.2.2.2.1.1 j hj).2.2.2 hS rfl hd (k h0 hE H locs lsA hR hL (zst_cn trivial (zst_tl hs)) hS)
  · obtain ⟨ho, hly⟩ := zarr hz0 (by omega)
    rw [zrho_lt ho hR.2.1]
    have he := zws_get (G := G) (cp := cp) (σ := σ) ho
    obtain ⟨ty, hty⟩ : ∃ ty, (ztys G)[t - 20]? = some (G.2.1 (t - 20), ty) := by
      rcases (by omega : t = 20 ∨ t = 21 ∨ t = 22 ∨ t = 23 ∨ t = 24 ∨ t = 25) with h | h | h | h | h | h <;> (subst h; exact ⟨_, rfl⟩)
    by_cases h23 : t < 23
    · rw [zenc_arr hly (by omega) h23] at he
      exact va_alen hx hb hK.1 hR.2.2.1 o (t - 20) he hty rfl hd (k h0 hE H locs lsA hR hL (zst_cn trivial (zst_tl hs)) hS)
    · rw [zenc_ref hly h23] at he
      exact va_alen hx hb hK.1 hR.2.2.1 o (t - 20) he hty rfl hd (k h0 hE H locs lsA hR hL (zst_cn trivial (zst_tl hs)) hS)
/-- a new cell lies behind the others -/
theorem znew {q : Nat} {en : va_E} (hsz : s.heap.size = G.2.2.1 + nx0) (hP : va_P G.1 zcl (zws G cp σ nx ++ [(q, en)]) H1) (hD : va_D (zA G) (zws G cp σ nx ++ [(q, en)])) (hz : H1.size ≤ s.heap.size + (nx - nx0 + 1)) (h0 : nx0 ≤ nx) : q = G.2.2.1 + nx := by
  have hl : (zws G cp σ nx ++ [(q, en)])[nx]? = some (q, en) := by
    rw [List.getElem?_append_right (by rw [zws_len]; exact Nat.le_refl _), zws_len, Nat.sub_self]
    rfl
  have h1 := (hP nx _ hl).lt
  have h2 : G.2.2.1 ≤ q := hD.2 nx _ hl
  dsimp only at h1
  by_cases hq : q = G.2.2.1 + nx
  · exact hq
  · have hlt : q - G.2.2.1 < nx := by omega
    have hl2 : (zws G cp σ nx ++ [(q, en)])[q - G.2.2.1]? = some (G.2.2.1 + (q - G.2.2.1), zenc G cp σ (q - G.2.2.1)) := by
      rw [List.getElem?_append_left (by rw [zws_len]; exact hlt), zws_get hlt]
    have := hD.1 _ _ _ _ hl2 hl (by dsimp only; omega)
    omega
theorem zRep.new {en : va_E} (hR : zRep G cp nx σ H) (h1 : nx < 501) (hP : va_P G.1 zcl (zws G cp σ nx ++ [(G.2.2.1 + nx, en)]) H1) (he : en = zenc G cp (zu0 σ nx) nx) (hz : H1.size ≤ G.2.2.1 + (nx + 1)) (hcp : cp nx = true → ∀ k, (zfk (zlay nx).1 k).1 ≠ 1) : zRep G cp (nx + 1) (zu0 σ nx) H1 := by
  have hw : zws G cp (zu0 σ nx) (nx + 1) = zws G cp σ nx ++ [(G.2.2.1 + nx, en)] := by
    rw [zws_push, he, zws_congr (σ1 := zu0 σ nx) (σ := σ) (fun b hb => zenc_congr (zu0_ne (by omega)).1 (zu0_ne (by omega)).2)]
  rw [← hw] at hP
  have hlo := (hP nx _ (zws_get (Nat.lt_succ_self nx))).lt
  dsimp only at hlo
  refine ⟨by omega, h1, hP, fun a k b ha hb => ?_, fun a k ha hc hk => ?_, fun i hi j hj => ?_⟩
  · by_cases han : a = nx
    · subst han
      simp [zu0] at hb
    · rw [(zu0_ne han).2] at hb
      rcases hR.2.2.2.1 a k b (by omega) hb with h | h
      · exact Or.inl (by omega)
      · exact Or.inr h
  · by_cases han : a = nx
    · subst han
      exact absurd hk (hcp hc k)
    · exact Nat.lt_succ_of_lt (hR.2.2.2.2.1 a k (by omega) hc hk)
  · rw [(zu0_ne (by omega)).1]
    exact hR.2.2.2.2.2 i hi j hj
end ZJ3
