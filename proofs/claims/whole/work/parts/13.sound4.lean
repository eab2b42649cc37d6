/-! new cells, the library's own, switches, returns -/
section ZJ4
variable {G : zG} {d y nL nx0 nxE : Nat} {p : Program} {l : Launch} {e : Env} {R : Room} {s : State} {m : MethodId} {args : Array Value} {below : List Frame} {meth : Method} {c : Code} {Qm : State → Prop} {cp : Nat → Bool} {nx pc : Nat} {ls : List (Option zV)} {st : List zV} {σ σ1 : zS} {H H1 : Heap} {locs : List Loc}
theorem zfk_out {t k : Nat} (h : ¬ t < 10) : (zfk t k).1 ≠ 1 := by
  have h1 : zfkL.getD t [] = [] := by
    rw [List.getD_eq_getElem?_getD, List.getElem?_eq_none (by show zfkL.length ≤ t; exact Nat.le_trans (by decide) (Nat.not_lt.mp h))]
    rfl
  unfold zfk
  rw [h1]
  simp
theorem zRA {cA : ClassId} {ty : FieldType} {i : Nat} (hK : va_K G.1 zcl (ztys G) s) (hK2 : va_K G.1 zcl (ztys G ++ [(cA, ty)]) s) (hi : (ztys G)[i]? = some (G.2.1 i, ty)) : cA = G.2.1 i := by
  have h1 := (hK.2 i _ hi).2
  have h2 := (hK2.2 6 (cA, ty) rfl).2
  cases ty with
  | object C =>
    obtain ⟨_, _, _, _, _, a1⟩ := h1
    obtain ⟨_, _, _, _, _, a2⟩ := h2
    exact Option.some.inj (a2.symm.trans a1)
  | _ => exact Option.some.inj (Eq.trans (Eq.symm h2) h1)
/-- the walk behind a new cell -/
theorem zborn {t n : Nat} {en : va_E} {lsA : Array Slot} {pc1 : Nat} {locs1 : List Loc} {q : Nat} (hsz : s.heap.size = G.2.2.1 + nx0) (h0 : nx0 ≤ nx) (hE : nx < nxE) (hR : zRep G cp nx σ H) (hL : zLc G nx nL ls lsA) (hs : ∀ v ∈ st, zok G nx v) (hly : zlay nx = (t, n)) (ht : t ≠ 99) (hcp : cp nx = true → ∀ k, (zfk (zlay nx).1 k).1 ≠ 1)
    (k : zJ G nL nx0 nxE p l e R s m args below meth c Qm cp (nx + 1) pc1 ls (.inr (t, n, nx) :: st) (zu0 σ nx)) (hP : va_P G.1 zcl (zws G cp σ nx ++ [(q, en)]) H1) (hD : va_D (zA G) (zws G cp σ nx ++ [(q, en)])) (he : en = zenc G cp (zu0 σ nx) nx) (hS1 : va_S (zA G) s.heap H1 locs1) : W p l e R s m args below meth c H1 locs1 (nx - nx0 + 1) (zsl nx - zsl nx0 + n) Qm (F0 m pc1 lsA (.ref q :: st.map (zval G))) := by
  have hn5 : nx < 501 := zlay_in hly ht (Nat.lt_of_le_of_lt hR.2.1 (by decide))
  refine zW_size fun hz => ?_
  have hq := znew hsz hP hD hz h0
  subst hq
  have hRep := hR.new hn5 hP he (by omega) hcp
  have e1 : nx - nx0 + 1 = nx + 1 - nx0 := by omega
  have e2 : zsl nx - zsl nx0 + n = zsl (nx + 1) - zsl nx0 := by
    have := zsl_mono h0
    rw [zsl_succ, hly]
    show _ = zsl nx + n - zsl nx0
    omega
  rw [e1, e2]
  have := k (by omega) hE H1 locs1 lsA hRep (hL.up (by omega)) (zst_cn (Or.inl ⟨Nat.lt_succ_self nx, hly⟩) (zst_up hs (by omega))) hS1
  have hv : zval G (.inr (t, n, nx)) = .ref (G.2.2.1 + nx) := by
    show Value.ref (zrho G nx) = _
    rw [zrho_lt (nx := nx + 1) (Nat.lt_succ_self nx) hn5]
  rw [List.map_cons, hv] at this
  exact this
theorem zroom (hC : zCx G d y nx0 nxE p R s m args meth c) {n : Nat} (h0 : nx0 ≤ nx) (hE : nx < nxE) (hn : (zlay nx).2 = n) : nx - nx0 + 1 ≤ R.cells ∧ zsl nx - zsl nx0 + n ≤ R.slots := by
  obtain ⟨-, -, -, -, -, -, -, -, -, hc, hs, -⟩ := hC
  have h1 := zsl_mono (show nx + 1 ≤ nxE from hE)
  have h2 := zsl_mono h0
  rw [zsl_succ, hn] at h1
  exact ⟨by omega, by omega⟩
theorem zj_newa (hC : zCx G d y nx0 nxE p R s m args meth c) {a : Nat} {x : Int32} (ha : a = 20 ∨ a = 21 ∨ a = 22) (hly : zlay nx = (a, x.toNatClampNeg)) (hx0 : ¬ x < 0) (hEn : nx < nxE) (hd : decode (zmt y).2.1 pc = .ok (.newarray (zaty a), 2))
    (k : zJ G nL nx0 nxE p l e R s m args below meth c Qm cp (nx + 1) (pc + 2) ls (.inr (a, x.toNatClampNeg, nx) :: st) (zu0 σ nx)) : zJ G nL nx0 nxE p l e R s m args below meth c Qm cp nx pc ls (.inl x :: st) σ := by
  intro h0 hE H locs lsA hR hL hs hS
  have hroom := zroom hC h0 hEn (by rw [hly])
  obtain ⟨hx, hb, hml, hown, hts, hK, hsz, -⟩ := hC
  have hn5 : nx < 501 := zlay_in hly (by omega) (Nat.lt_of_le_of_lt hR.2.1 (by decide))
  have hlen := zlen_le hly hn5
  have hA : ∀ q, s.heap.size ≤ q → zA G q := fun q hq => by show G.2.2.1 ≤ q; omega
  have henc : ∀ i, a - 20 = i → (.inl (G.2.1 i, x.toNatClampNeg, .inl (fun _ => (0 : Int32))) : va_E) = zenc G cp (zu0 σ nx) nx := by
    intro i hi
    rw [zenc_arr hly (by omega) (by omega), hi]
    congr 4
    funext j
    simp [zu0]
  have hcp : cp nx = true → ∀ k, (zfk (zlay nx).1 k).1 ≠ 1 := fun _ k => by rw [hly]; exact zfk_out (by show ¬ a < 10; omega)
  rcases ha with rfl | rfl | rfl
  · exact va_newa hx hb (atype := .int) (ty := .int) (a0 := (x.toNatClampNeg, .inl (fun _ => 0))) (hts _ (zjw_in _ (List.mem_of_getElem? (i := 10) rfl))) rfl hK.1 hR.2.2.1 zws_D hS hA (fun _ => rfl) hx0 rfl (by show x.toNatClampNeg * 4 ≤ 536870912; omega) hroom.1 hroom.2 hd (fun q cA H1 hK2 hP hD hS1 => by
      have e := zRA (i := 0) hK.1 hK2 rfl
      subst e
      exact zborn hsz h0 hEn hR hL (zst_tl hs) hly (by decide) hcp k hP hD (henc 0 rfl) hS1)
  · exact va_newa hx hb (atype := .byte) (ty := .byte) (a0 := (x.toNatClampNeg, .inl (fun _ => 0))) (hts _ (zjw_in _ (List.mem_of_getElem? (i := 11) rfl))) rfl hK.1 hR.2.2.1 zws_D hS hA (fun _ => rfl) hx0 rfl (by show x.toNatClampNeg * 1 ≤ 536870912; omega) hroom.1 hroom.2 hd (fun q cA H1 hK2 hP hD hS1 => by
      have e := zRA (i := 1) hK.1 hK2 rfl
      subst e
      exact zborn hsz h0 hEn hR hL (zst_tl hs) hly (by decide) hcp k hP hD (henc 1 rfl) hS1)
  · exact va_newa hx hb (atype := .boolean) (ty := .boolean) (a0 := (x.toNatClampNeg, .inl (fun _ => 0))) (hts _ (zjw_in _ (List.mem_of_getElem? (i := 12) rfl))) rfl hK.1 hR.2.2.1 zws_D hS hA (fun _ => rfl) hx0 rfl (by show x.toNatClampNeg * 1 ≤ 536870912; omega) hroom.1 hroom.2 hd (fun q cA H1 hK2 hP hD hS1 => by
      have e := zRA (i := 2) hK.1 hK2 rfl
      subst e
      exact zborn hsz h0 hEn hR hL (zst_tl hs) hly (by decide) hcp k hP hD (henc 2 rfl) hS1)
theorem zj_newq (hC : zCx G d y nx0 nxE p R s m args meth c) (hyo : (zmt y).1.cls = zown (zmo y)) {a b idx : Nat} {x : Int32} (hl : zclL.any (fun q => Nat.beq q.1 (zmo y) && Nat.beq q.2.1 idx && Nat.beq q.2.2.1 b) = true) (hab : (a = 23 ∧ b = 4) ∨ (a = 24 ∧ b = 5) ∨ (a = 25 ∧ b = 7)) (hly : zlay nx = (a, x.toNatClampNeg)) (hx0 : ¬ x < 0) (hEn : nx < nxE) (hd : decode (zmt y).2.1 pc = .ok (.anewarray idx, 3))
    (k : zJ G nL nx0 nxE p l e R s m args below meth c Qm cp (nx + 1) (pc + 3) ls (.inr (a, x.toNatClampNeg, nx) :: st) (zu0 σ nx)) : zJ G nL nx0 nxE p l e R s m args below meth c Qm cp nx pc ls (.inl x :: st) σ := by
  intro h0 hE H locs lsA hR hL hs hS
  have hroom := zroom hC h0 hEn (by rw [hly])
  obtain ⟨hx, hb, hml, hown, hts, hK, hsz, -⟩ := hC
  rw [hyo] at hown
  obtain ⟨r, hr, h2, h3, h4⟩ := zcmp (G := G) hab
  obtain ⟨r', hr', hw⟩ := zcl_of hl
  have hrr : r' = r := Option.some.inj (hr'.symm.trans hr)
  subst hrr
  have hn5 : nx < 501 := zlay_in hly (by omega) (Nat.lt_of_le_of_lt hR.2.1 (by decide))
  have hlen := zlen_le hly hn5
  have hA : ∀ q, s.heap.size ≤ q → zA G q := fun q hq => by show G.2.2.1 ≤ q; omega
  have hcp : cp nx = true → ∀ k, (zfk (zlay nx).1 k).1 ≠ 1 := fun _ k => by rw [hly]; exact zfk_out (by show ¬ a < 10; omega)
  have hao : va_AO r'.1 s := by
    obtain ⟨o1, o2, o3⟩ := hK.2.2.2.2.2.2.1
    rcases hab with ⟨-, rfl⟩ | ⟨-, rfl⟩ | ⟨-, rfl⟩ <;> (cases hr; assumption)
  refine va_newq hx hb hown (hts _ hw) hao hK.1 hR.2.2.1 zws_D hS hA hx0 rfl (by omega) hroom.1 hroom.2 hd (fun q cA H1 hK2 hP hD hS1 => ?_)
  have e := zRA (i := a - 20) hK.1 hK2 h2
  subst e
  refine zborn hsz h0 hEn hR hL (zst_tl hs) hly (by omega) hcp k hP hD ?_ hS1
  rw [zenc_ref hly h3]
  congr 7
  funext j
  simp [zu0, zrf]
theorem zj_new (hC : zCx G d y nx0 nxE p R s m args meth c) (hyo : (zmt y).1.cls = zown (zmo y)) {a idx : Nat} {r : vw_C} (hl : zclL.any (fun q => Nat.beq q.1 (zmo y) && Nat.beq q.2.1 idx && Nat.beq q.2.2.1 a) = true) (hr : zcl[a]? = some r) (hly : zlay nx = (a, r.2.2)) (hcp : cp nx = false) (hEn : nx < nxE) (hd : decode (zmt y).2.1 pc = .ok (.new idx, 3))
    (k : zJ G nL nx0 nxE p l e R s m args below meth c Qm cp (nx + 1) (pc + 3) ls (.inr (a, r.2.2, nx) :: st) (zu0 σ nx)) : zJ G nL nx0 nxE p l e R s m args below meth c Qm cp nx pc ls st σ := by
  intro h0 hE H locs lsA hR hL hs hS
  have hroom := zroom hC h0 hEn (by rw [hly])
  obtain ⟨hx, hb, hml, hown, hts, hK, hsz, -⟩ := hC
  rw [hyo] at hown
  obtain ⟨r', hr', hw⟩ := zcl_of hl
  have hrr : r' = r := Option.some.inj (hr'.symm.trans hr)
  subst hrr
  obtain ⟨C, T, N⟩ := r'
  have hin := zo_inst a _ hr
  have hA : ∀ q, s.heap.size ≤ q → zA G q := fun q hq => by show G.2.2.1 ≤ q; omega
  refine va_new (fs := (List.range N).map (zfv G cp (zu0 σ nx) nx a)) hx hb hts (zu_in a _ hr) (zty a) (zu_ty a _ hr) hown (hts _ hw) (hts _ hin.1) (hts _ hin.2) hK.1 hR.2.2.1 zws_D hS hA hr (fun j hj => ?_) hroom.1 hroom.2 hd (fun q H1 hP hD hS1 => ?_)
  · have hv : vp_V ((List.range N).map (zfv G cp (zu0 σ nx) nx a)) j = zfv G cp (zu0 σ nx) nx a j := by
      simp [vp_V, List.getD_eq_getElem?_getD, List.getElem?_map, List.getElem?_range hj]
    rw [hv]
    have h60 : j < 60 := Nat.lt_trans hj (zlen60 hr)
    by_cases hk0 : (zfk a j).1 = 0
    · rw [zkind0 hr hj h60 hk0]
      simp [zfv, hk0, zu0, defaultValue]
    · have hnull : zfv G cp (zu0 σ nx) nx a j = .null := by
        unfold zfv
        generalize (zfk a j).1 = z at hk0
        match z, hk0 with
        | 0, h => exact absurd rfl h
        | 1, _ => simp [hcp, zu0, zrf, va_rf]
        | z + 2, _ => simp [zu0, zrf, va_rf]
      rw [hnull]
      rcases zkindR hr hj h60 hk0 with ⟨z, hz⟩ | ⟨z, hz⟩ <;> (rw [hz]; rfl)
  · exact zborn hsz h0 hEn hR hL hs hly (by have := zcl_lt hr; omega) (fun h => by rw [hcp] at h; cases h) k hP hD (zenc_obj hly (zcl_lt hr)).symm hS1
theorem zj_min (hC : zCx G d y nx0 nxE p R s m args meth c) (hyo : (zmt y).1.cls = zown (zmo y)) {b idx : Nat} {x z : Int32} (hw : lw_tbl[b]? = some (.methodLink (zown (zmo y)) idx Lib.Math.min.name)) (hd1 : 1 ≤ d) (hst : st.length ≤ 8) (hnL : nL = (zmt y).2.2.1) (hd : decode (zmt y).2.1 pc = .ok (.invokestatic idx, 3))
    (k : zJ G nL nx0 nxE p l e R s m args below meth c Qm cp nx (pc + 3) ls (.inl (if z < x then z else x) :: st) σ) : zJ G nL nx0 nxE p l e R s m args below meth c Qm cp nx pc ls (.inl z :: .inl x :: st) σ := by
  intro h0 hE H locs lsA hR hL hs hS
  obtain ⟨hx, hb, hml, hown, hts, hK, hsz, hfr, hlo, hce, hsl, -⟩ := hC
  rw [hyo] at hown
  refine va_mmin hx hb (by rw [hml, hL.2.1, hnL]) hown (hts _ (ztb_in hw rfl)) (hts _ (zjw_in _ (List.mem_of_getElem? (i := 0) rfl))) (hts _ (zjw_in _ (List.mem_of_getElem? (i := 1) rfl))) (hts _ (zjw_in _ (List.mem_of_getElem? (i := 2) rfl))) (Nat.le_trans hd1 hfr) (by rw [zcat_sum]; omega) ?_ ?_ hd (k h0 hE H locs lsA hR hL (zst_cn trivial (zst_tl (zst_tl hs))) hS)
  · omega
  · have := zsl_mono hE
    omega
theorem zj_max (hC : zCx G d y nx0 nxE p R s m args meth c) (hyo : (zmt y).1.cls = zown (zmo y)) {b idx : Nat} {x z : Int32} (hw : lw_tbl[b]? = some (.methodLink (zown (zmo y)) idx Lib.Math.max.name)) (hd1 : 1 ≤ d) (hst : st.length ≤ 8) (hnL : nL = (zmt y).2.2.1) (hd : decode (zmt y).2.1 pc = .ok (.invokestatic idx, 3))
    (k : zJ G nL nx0 nxE p l e R s m args below meth c Qm cp nx (pc + 3) ls (.inl (if x < z then z else x) :: st) σ) : zJ G nL nx0 nxE p l e R s m args below meth c Qm cp nx pc ls (.inl z :: .inl x :: st) σ := by
  intro h0 hE H locs lsA hR hL hs hS
  obtain ⟨hx, hb, hml, hown, hts, hK, hsz, hfr, hlo, hce, hsl, -⟩ := hC
  rw [hyo] at hown
  refine va_mmax hx hb (by rw [hml, hL.2.1, hnL]) hown (hts _ (ztb_in hw rfl)) (hts _ (zjw_in _ (List.mem_of_getElem? (i := 3) rfl))) (hts _ (zjw_in _ (List.mem_of_getElem? (i := 1) rfl))) (hts _ (zjw_in _ (List.mem_of_getElem? (i := 4) rfl))) (Nat.le_trans hd1 hfr) (by rw [zcat_sum]; omega) ?_ ?_ hd (k h0 hE H locs lsA hR hL (zst_cn trivial (zst_tl (zst_tl hs))) hS)
  · omega
  · have := zsl_mono hE
    omega
theorem zj_copy (hC : zCx G d y nx0 nxE p R s m args meth c) (hyo : (zmt y).1.cls = zown (zmo y)) {b idx n0 n1 o0 o1 : Nat} {sp dp n : Int32} (hw : lw_tbl[b]? = some (.methodLink (zown (zmo y)) idx arraycopyName)) (hd1 : 1 ≤ d) (hst : st.length ≤ 8) (hnL : nL = (zmt y).2.2.1) (h1 : ¬ sp < 0) (h2 : ¬ dp < 0) (h3 : ¬ n < 0) (h4 : sp.toNatClampNeg + n.toNatClampNeg ≤ n0) (h5 : dp.toNatClampNeg + n.toNatClampNeg ≤ n1) (hd : decode (zmt y).2.1 pc = .ok (.invokestatic idx, 3))
    (k : zJ G nL nx0 nxE p l e R s m args below meth c Qm cp nx (pc + 3) ls st (zcpy σ o0 o1 sp.toNatClampNeg dp.toNatClampNeg n.toNatClampNeg)) : zJ G nL nx0 nxE p l e R s m args below meth c Qm cp nx pc ls (.inl n :: .inl dp :: .inr (20, n1, o1) :: .inl sp :: .inr (20, n0, o0) :: st) σ := by
  intro h0 hE H locs lsA hR hL hs hS
  obtain ⟨hx, hb, hml, hown, hts, hK, hsz, hfr, hlo, hce, hsl, -⟩ := hC
  rw [hyo] at hown
  have hz1 : zat G nx o1 20 n1 := hs (.inr (20, n1, o1)) (List.mem_cons_of_mem _ (List.mem_cons_of_mem _ List.mem_cons_self))
  have hz0 : zat G nx o0 20 n0 := hs (.inr (20, n0, o0)) (List.mem_cons_of_mem _ (List.mem_cons_of_mem _ (List.mem_cons_of_mem _ (List.mem_cons_of_mem _ List.mem_cons_self))))
  obtain ⟨ho1, hly1⟩ := zarr hz1 (by decide)
  obtain ⟨ho0, hly0⟩ := zarr hz0 (by decide)
  have he1 := zws_get (G := G) (cp := cp) (σ := σ) ho1
  rw [zenc_arr hly1 (by decide) (by decide)] at he1
  have he0 := zws_get (G := G) (cp := cp) (σ := σ) ho0
  rw [zenc_arr hly0 (by decide) (by decide)] at he0
  show W p l e R s m args below meth c H locs _ _ Qm (F0 m pc lsA (.int n :: .int dp :: .ref (zrho G o1) :: .int sp :: .ref (zrho G o0) :: st.map (zval G)))
  rw [zrho_lt ho1 hR.2.1, zrho_lt ho0 hR.2.1]
  have hwords : nativeFrameWords "java/lang/System" "arraycopy" 5 ≤ 30 := by decide
  refine va_copyi hx hb (by rw [hml, hL.2.1, hnL]) hown (hts _ (ztb_in hw rfl)) (hts _ (zjw_in _ (List.mem_of_getElem? (i := 5) rfl))) (hts _ (zjw_in _ (List.mem_of_getElem? (i := 6) rfl))) (hts _ (zjw_in _ (List.mem_of_getElem? (i := 7) rfl))) hK.1 hR.2.2.1 zws_D hS o0 o1 0 0 he0 he1 rfl rfl rfl h1 h2 h3 h4 h5 (fun _ _ => rfl) (Nat.le_trans hd1 hfr) (by rw [zcat_sum]; omega) hd (fun H1 locs1 hP hD hS1 => ?_)
  have ho5 : o1 < 501 := Nat.lt_of_lt_of_le ho1 hR.2.1
  rw [zws_set ho1 (σ := σ) (σ1 := zcpy σ o0 o1 sp.toNatClampNeg dp.toNatClampNeg n.toNatClampNeg) (fun q _ hne => zenc_congr (zcpy_ne hne) rfl) (by rw [zenc_arr hly1 (by decide) (by decide), zcpy_self])] at hP
  refine zW_size fun hz => k h0 hE H1 locs1 lsA (hR.to hP (Nat.le_trans (by omega) hS1.1) (by omega) hR.2.2.2.1 (fun i j hi => by
    show (zcpy σ o0 o1 _ _ _).1 (1000000 + i) j = _
    rw [zcpy_ne (by omega)])) hL (zst_tl (zst_tl (zst_tl (zst_tl (zst_tl hs))))) hS1
theorem zj_obj (hC : zCx G d y nx0 nxE p R s m args meth c) (hyo : (zmt y).1.cls = zown (zmo y)) {b idx : Nat} {q : Nat × Nat × Nat} (hw : lw_tbl[b]? = some (.methodLink (zown (zmo y)) idx objectInit)) (hd1 : 1 ≤ d) (hst : st.length ≤ 8) (hnL : nL = (zmt y).2.2.1) (hd : decode (zmt y).2.1 pc = .ok (.invokespecial idx, 3))
    (k : zJ G nL nx0 nxE p l e R s m args below meth c Qm cp nx (pc + 3) ls st σ) : zJ G nL nx0 nxE p l e R s m args below meth c Qm cp nx pc ls (.inr q :: st) σ := by
  intro h0 hE H locs lsA hR hL hs hS
  obtain ⟨hx, hb, hml, hown, hts, hK, hsz, hfr, hlo, hce, hsl, -⟩ := hC
  rw [hyo] at hown
  refine W.objInit (rest := st.map (zval G)) hx hb hown (hts _ (ztb_in hw rfl)) (hts _ (zjw_in _ (List.mem_of_getElem? (i := 8) rfl))) (hts _ (zjw_in _ (List.mem_of_getElem? (i := 9) rfl))) (g := F0 m pc lsA (Value.ref (zrho G q.2.2) :: st.map (zval G))) rfl (by show lsA.size = _; rw [hml, hL.2.1, hnL]) rfl hd (Nat.le_trans hd1 hfr) (by show 2 * 0 + _ + 12 ≤ _; rw [zcat_sum]; omega) (k h0 hE H locs lsA hR hL (zst_tl hs) hS)
theorem zj_gets (hC : zCx G d y nx0 nxE p R s m args meth c) (hyo : (zmt y).1.cls = zown (zmo y)) {a b idx : Nat} (ha : a < 3) (hw : lw_tbl[b]? = some (.fieldLink (zown (zmo y)) idx "WindowRing" (znm a) "[I")) (hd : decode (zmt y).2.1 pc = .ok (.getstatic idx, 3))
    (k : zJ G nL nx0 nxE p l e R s m args below meth c Qm cp nx (pc + 3) ls (.inr (26, zstn a, 1000000 + a) :: st) σ) : zJ G nL nx0 nxE p l e R s m args below meth c Qm cp nx pc ls st σ := by
  intro h0 hE H locs lsA hR hL hs hS
  obtain ⟨hx, hb, hml, hown, hts, hK, hsz, -⟩ := hC
  rw [hyo] at hown
  have := k h0 hE H locs lsA hR hL (zst_cn (Or.inr (Or.inl ⟨a, by omega, rfl, rfl, (hK.2.2.2.2.2.1 a ha).symm⟩)) hs) hS
  rw [List.map_cons, show zval G (.inr (26, zstn a, 1000000 + a)) = .ref (G.2.2.2.1 a) from congrArg Value.ref zrho_st] at this
  exact va_gets hx hb (hK.2.2.2.2.1 a ha) hS hown (hts _ (ztb_in hw rfl)) (fun _ h => h) hd this
theorem zj_getsN (hC : zCx G d y nx0 nxE p R s m args meth c) (hyo : (zmt y).1.cls = zown (zmo y)) (ho : zmo y = 0) (hd : decode (zmt y).2.1 pc = .ok (.getstatic 9, 3))
    (k : zJ G nL nx0 nxE p l e R s m args below meth c Qm cp nx (pc + 3) ls (.inr (26, zstn 0, 1000000 + 0) :: st) σ) : zJ G nL nx0 nxE p l e R s m args below meth c Qm cp nx pc ls st σ := by
  intro h0 hE H locs lsA hR hL hs hS
  obtain ⟨hx, hb, hml, hown, hts, hK, hsz, -⟩ := hC
  rw [hyo, ho] at hown
  have := k h0 hE H locs lsA hR hL (zst_cn (Or.inr (Or.inl ⟨0, by omega, rfl, rfl, (hK.2.2.2.2.2.1 0 (by omega)).symm⟩)) hs) hS
  rw [List.map_cons, show zval G (.inr (26, zstn 0, 1000000 + 0)) = .ref (G.2.2.2.1 0) from congrArg Value.ref zrho_st] at this
  exact va_getsN hx hb (hK.2.2.2.2.1 0 (by omega)) hS hown (va_Nw.use rfl hK.2.2.1) (fun _ h => h) hd this
theorem zj_ldcS (hC : zCx G d y nx0 nxE p R s m args meth c) (hyo : (zmt y).1.cls = zown (zmo y)) {a idx : Nat} (ho : zmo y = 6) (ha : a < 14) (hi : idx = zsiL.getD a 0) (hd : decode (zmt y).2.1 pc = .ok (.ldc idx, 2))
    (k : zJ G nL nx0 nxE p l e R s m args below meth c Qm cp nx (pc + 2) ls (.inr (30, a, 1000010 + a) :: st) σ) : zJ G nL nx0 nxE p l e R s m args below meth c Qm cp nx pc ls st σ := by
  intro h0 hE H locs lsA hR hL hs hS
  obtain ⟨hx, hb, hml, hown, hts, hK, hsz, -⟩ := hC
  rw [hyo, ho] at hown
  subst hi
  have := k h0 hE H locs lsA hR hL (zst_cn (Or.inr (Or.inr ⟨a, ha, Or.inl ⟨rfl, rfl, rfl⟩⟩)) hs) hS
  rw [List.map_cons, show zval G (.inr (30, a, 1000010 + a)) = .ref (G.2.2.2.1 (10 + a)) from congrArg Value.ref ((congrArg (zrho G) (by omega : 1000010 + a = 1000000 + (10 + a))).trans zrho_st)] at this
  exact va_ldcS hx hb hown (hK.2.2.2.2.2.2.2.1 a ha) hd this
theorem zj_strv (hC : zCx G d y nx0 nxE p R s m args meth c) (hyo : (zmt y).1.cls = zown (zmo y)) {b idx n o : Nat} (hw : lw_tbl[b]? = some (.fieldLink (zown (zmo y)) idx "java/lang/String" "value" "[B")) (hd : decode (zmt y).2.1 pc = .ok (.getfield idx, 3))
    (k : zJ G nL nx0 nxE p l e R s m args below meth c Qm cp nx (pc + 3) ls (.inr (27, zslenL.getD n 0, 1000040 + n) :: st) σ) : zJ G nL nx0 nxE p l e R s m args below meth c Qm cp nx pc ls (.inr (30, n, o) :: st) σ := by
  intro h0 hE H locs lsA hR hL hs hS
  obtain ⟨hx, hb, hml, hown, hts, hK, hsz, -⟩ := hC
  rw [hyo] at hown
  have hz0 : zat G nx o 30 n := hs (.inr (30, n, o)) List.mem_cons_self
  obtain ⟨hn, rfl⟩ := zst30 hR hz0
  have := k h0 hE H locs lsA hR hL (zst_cn (Or.inr (Or.inr ⟨n, hn, Or.inr ⟨rfl, rfl, rfl⟩⟩)) (zst_tl hs)) hS
  rw [List.map_cons, show zval G (.inr (27, zslenL.getD n 0, 1000040 + n)) = .ref (G.2.2.2.1 (40 + n)) from congrArg Value.ref ((congrArg (zrho G) (by omega : 1000040 + n = 1000000 + (40 + n))).trans zrho_st)] at this
  show W p l e R s m args below meth c H locs _ _ Qm (F0 m pc lsA (.ref (zrho G (1000000 + (10 + n))) :: st.map (zval G)))
  rw [zrho_st]
  exact vk_getf hx hb (hK.2.2.2.2.2.2.2.2.1.1 n hn).2.2.1 hS hown (hts _ (ztb_in hw rfl)) (fun _ h => h) hd this
theorem zj_strc (hC : zCx G d y nx0 nxE p R s m args meth c) (hyo : (zmt y).1.cls = zown (zmo y)) {b idx n o : Nat} (hw : lw_tbl[b]? = some (.fieldLink (zown (zmo y)) idx "java/lang/String" "coder" "B")) (hd : decode (zmt y).2.1 pc = .ok (.getfield idx, 3))
    (k : zJ G nL nx0 nxE p l e R s m args below meth c Qm cp nx (pc + 3) ls (.inl 0 :: st) σ) : zJ G nL nx0 nxE p l e R s m args below meth c Qm cp nx pc ls (.inr (30, n, o) :: st) σ := by
  intro h0 hE H locs lsA hR hL hs hS
  obtain ⟨hx, hb, hml, hown, hts, hK, hsz, -⟩ := hC
  rw [hyo] at hown
  have hz0 : zat G nx o 30 n := hs (.inr (30, n, o)) List.mem_cons_self
  obtain ⟨hn, rfl⟩ := zst30 hR hz0
  show W p l e R s m args below meth c H locs _ _ Qm (F0 m pc lsA (.ref (zrho G (1000000 + (10 + n))) :: st.map (zval G)))
  rw [zrho_st]
  exact vk_getf hx hb (hK.2.2.2.2.2.2.2.2.1.1 n hn).2.1 hS hown (hts _ (ztb_in hw rfl)) (fun _ h => h) hd (k h0 hE H locs lsA hR hL (zst_cn trivial (zst_tl hs)) hS)
theorem zj_comp (hC : zCx G d y nx0 nxE p R s m args meth c) (hyo : (zmt y).1.cls = zown (zmo y)) {b idx : Nat} (hw : lw_tbl[b]? = some (.fieldLink (zown (zmo y)) idx "java/lang/String" "COMPACT_STRINGS" "Z")) (hd : decode (zmt y).2.1 pc = .ok (.getstatic idx, 3))
    (k : zJ G nL nx0 nxE p l e R s m args below meth c Qm cp nx (pc + 3) ls (.inl 1 :: st) σ) : zJ G nL nx0 nxE p l e R s m args below meth c Qm cp nx pc ls st σ := by
  intro h0 hE H locs lsA hR hL hs hS
  obtain ⟨hx, hb, hml, hown, hts, hK, hsz, -⟩ := hC
  rw [hyo] at hown
  exact va_gets hx hb hK.2.2.2.2.2.2.2.2.2.1 hS hown (hts _ (ztb_in hw rfl)) (fun _ h => h) hd (k h0 hE H locs lsA hR hL (zst_cn trivial hs) hS)
theorem zsw_elim {x : Int32} {K : Nat → Prop} {b : Nat} : ∀ (tg : List (Int32 × Nat)), zsw x K b tg → (∃ (i : Nat) (q : Int32 × Nat), tg[i]? = some q ∧ x = q.1 ∧ K q.2) ∨ ((∀ q ∈ tg, ¬ x = q.1) ∧ K b)
  | [], h => Or.inr ⟨fun q hq => (by cases hq), h⟩
  | (v, t) :: r, h => by
    by_cases hv : x = v
    · exact Or.inl ⟨0, (v, t), rfl, hv, h.1 hv⟩
    · rcases zsw_elim r (h.2 hv) with ⟨i, q, h1, h2, h3⟩ | ⟨h1, h2⟩
      · exact Or.inl ⟨i + 1, q, h1, h2, h3⟩
      · refine Or.inr ⟨fun q hq => ?_, h2⟩
        rcases List.mem_cons.mp hq with h | h
        · rw [h]; exact hv
        · exact h1 q h
theorem zj_table (hx : p.tables.exec = Jvm.exec) {cc : ByteArray} (hb : c.code = cc) {x : Int32} {b len : Nat} {tg : List (Int32 × Nat)} (hne : tg.isEmpty = false) (hc : (List.range tg.length).all (fun i => match tg[i]? with | some q => decide (q.1.toInt = zlo tg + i) | none => false) = true) (hd : decode cc pc = .ok (.tableswitch ((b : Int) - (pc : Int)) (zlo tg) (zlo tg + tg.length - 1) (tg.map (fun q => ((q.2 : Int) - (pc : Int)))).toArray, len))
    (k : zsw x (fun t => zJ G nL nx0 nxE p l e R s m args below meth c Qm cp nx t ls st σ) b tg) : zJ G nL nx0 nxE p l e R s m args below meth c Qm cp nx pc ls (.inl x :: st) σ := by
  intro h0 hE H locs lsA hR hL hs hS
  have hat : ∀ (i : Nat) (q : Int32 × Nat), tg[i]? = some q → q.1.toInt = zlo tg + i := by
    intro i q hq
    have h1 := List.all_eq_true.mp hc i (List.mem_range.mpr (List.getElem?_eq_some_iff.mp hq).1)
    rw [hq] at h1
    simpa using h1
  rcases zsw_elim tg k with ⟨i, q, h1, h2, h3⟩ | ⟨h1, h2⟩
  · have hi := (List.getElem?_eq_some_iff.mp h1).1
    have hv := hat i q h1
    rw [← h2] at hv
    refine lv_tableIn hx hb hd (by omega) (by omega) (off := (q.2 : Int) - (pc : Int)) ?_ ztgt (h3 h0 hE H locs lsA hR hL (zst_tl hs) hS)
    rw [show (x.toInt - zlo tg).toNat = i by omega]
    simp [h1]
  · refine lv_tableOut hx hb hd ?_ ztgt (h2 h0 hE H locs lsA hR hL (zst_tl hs) hS)
    by_cases hlo : x.toInt < zlo tg
    · exact Or.inl hlo
    · refine Or.inr ?_
      by_cases hhi : zlo tg + tg.length - 1 < x.toInt
      · exact hhi
      · exfalso
        have hi : (x.toInt - zlo tg).toNat < tg.length := by omega
        have hg : tg[(x.toInt - zlo tg).toNat]? = some tg[(x.toInt - zlo tg).toNat] := List.getElem?_eq_getElem hi
        have hv := hat _ _ hg
        exact h1 _ (List.getElem_mem hi) (Int32.toInt_inj.mp (by rw [hv]; omega))
theorem zsw_off {x : Int32} {K : Nat → Prop} {b : Nat} : ∀ (tg : List (Int32 × Nat)), zsw x K b tg → ∃ t : Nat, Op.lookupswitch.offset (tg.map (fun q => (q.1.toInt, (q.2 : Int) - (pc : Int)))) ((b : Int) - (pc : Int)) x.toInt = (t : Int) - (pc : Int) ∧ K t
  | [], h => ⟨b, rfl, h⟩
  | (v, t) :: r, h => by
    by_cases hv : x = v
    · refine ⟨t, ?_, h.1 hv⟩
      rw [List.map_cons, Op.lookupswitch.offset_cons, if_pos (by rw [hv])]
    · obtain ⟨t', e1, e2⟩ := zsw_off r (h.2 hv)
      refine ⟨t', ?_, e2⟩
      rw [List.map_cons, lv_osw (k := v) hv rfl]
      exact e1
theorem zj_lookup (hx : p.tables.exec = Jvm.exec) {cc : ByteArray} (hb : c.code = cc) {x : Int32} {b len : Nat} {tg : List (Int32 × Nat)} (hc : ((tg.map (fun q => q.1.toInt)).zip ((tg.map (fun q => q.1.toInt)).drop 1)).all (fun q => decide (q.1 < q.2)) = true) (hd : decode cc pc = .ok (.lookupswitch ((b : Int) - (pc : Int)) (tg.map (fun q => (q.1.toInt, (q.2 : Int) - (pc : Int)))).toArray, len))
    (k : zsw x (fun t => zJ G nL nx0 nxE p l e R s m args below meth c Qm cp nx t ls st σ) b tg) : zJ G nL nx0 nxE p l e R s m args below meth c Qm cp nx pc ls (.inl x :: st) σ := by
  intro h0 hE H locs lsA hR hL hs hS
  obtain ⟨t, e1, e2⟩ := zsw_off (pc := pc) tg k
  refine lv_lookup hx hb hd ?_ e1 ztgt (e2 h0 hE H locs lsA hR hL (zst_tl hs) hS)
  rw [← List.map_drop, List.zip_map, List.all_map] at hc
  show ((tg.map (fun q => (q.1.toInt, (q.2 : Int) - (pc : Int)))).zip ((tg.map (fun q => (q.1.toInt, (q.2 : Int) - (pc : Int)))).drop 1)).all _ = true
  rw [← List.map_drop, List.zip_map, List.all_map]
  refine Eq.trans ?_ hc
  congr 1
end ZJ4
