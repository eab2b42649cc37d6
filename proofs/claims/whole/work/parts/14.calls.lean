/-! calls -/
theorem zm_all (a : Nat) (h : a < 309) : Cond.initialized (zmt a).1.cls ∈ ztb ∧ (zms a = true → Cond.static (zmt a).1 ∈ ztb) ∧ (zms a = false → Cond.instanceMethod (zmt a).1 ∈ ztb) ∧ (zms a = false → (zmt a).1.name ≠ "<init>" → Cond.selects (zmt a).1.cls (zmt a).1 (zmt a).1 ∈ ztb) ∧ (zmt a).1.cls = zown (zmo a) ∧ (zmt a).1.cls ≠ "java/lang/invoke/MethodHandle" ∧ (zmt a).1.cls ≠ "java/lang/invoke/VarHandle" ∧ (parseMethodDescriptor (zmt a).1.desc).map (fun d => d.parameters.length) = some (zmp a).2.2.2.2 ∧ (zmt a).2.2.1 ≤ 30 ∧ plainName (zmt a).1.cls = true := by
  have hk := zm_ck a h
  unfold zmck at hk
  simp only [Bool.and_eq_true, decide_eq_true_eq] at hk
  obtain ⟨⟨⟨⟨⟨⟨⟨⟨h1, h2⟩, h3⟩, h4⟩, h5⟩, h6⟩, h7⟩, h8⟩, h9⟩ := hk
  refine ⟨ztb_in h1 rfl, fun hs => ?_, fun hs => ?_, fun hs hn => ?_, h4, h5, h6, h7, h8, h9⟩
  · rw [hs] at h2
    exact ztb_in (of_decide_eq_true h2) rfl
  · rw [hs] at h2
    exact ztb_in (of_decide_eq_true h2) rfl
  · rw [hs] at h3
    simp only [Bool.false_or, Bool.or_eq_true, decide_eq_true_eq] at h3
    rcases h3 with h3 | h3
    · exact absurd h3 hn
    · exact ztb_in h3 rfl
theorem zgood (a : Nat) (h : a < 309) : GoodIn ztb (zwd a) := by
  intro w hw
  have hm : w ∈ ztb := by
    rcases List.mem_cons.mp hw with e | e
    · rw [e]; exact zcw_in a h
    · exact e
  exact ⟨hm, good_of_word (List.mem_filter.mp hm).2⟩
theorem zpop_elim {b : Nat} {st : List zV} {K : List zV → List zV → Prop} (h : zpop b st K) : ∃ av rest, K av rest ∧ st = av.reverse ++ rest ∧ av.length = b := by
  unfold zpop at h
  split at h
  · exact ⟨_, _, h, rfl, rfl⟩
  · exact ⟨_, _, h, rfl, rfl⟩
  · exact ⟨_, _, h, rfl, rfl⟩
  · exact ⟨_, _, h, rfl, rfl⟩
  · exact ⟨_, _, h, rfl, rfl⟩
  · exact ⟨_, _, h, rfl, rfl⟩
  · exact ⟨_, _, h, rfl, rfl⟩
  · exact ⟨_, _, h, rfl, rfl⟩
  · exact h.elim
section ZJ5
variable {G : zG} {d y nL nx0 nxE : Nat} {p : Program} {l : Launch} {e : Env} {R : Room} {s : State} {m : MethodId} {args : Array Value} {below : List Frame} {meth : Method} {c : Code} {Qm : State → Prop} {cp cp1 : Nat → Bool} {nx nx1 pc : Nat} {ls : List (Option zV)} {st rest av : List zV} {σ σ1 : zS} {H H1 : Heap} {locs : List Loc} {Q : zQ}
theorem zK.moved {U : State} (hK : zK G s) (hW : s.vm.Alike U.vm) (hM : ∀ q ∈ znlL, va_Nw (.methodLinkNest (zown q.1) q.2.1 (zmt q.2.2.1).1 "WindowRing") U) (hN : va_Nw (.fieldLinkNest RX0 9 "WindowRing" "NOTHING" "[I" "WindowRing") U) (hV : ∀ i, i < 14 → vk_R RX6 (zsiL.getD i 0) (ztxL.getD i "") (G.2.2.2.1 (10 + i)) U) (hH : ∀ a : Nat, a < s.heap.size → ¬ zA G a → U.heap[a]? = s.heap[a]?) : zK G U :=
  ⟨va_K.moved hW hK.1, hM, hN, fun i hi => ((hK.2.2.2.1 i hi).moved hW).kept hH, fun i hi => ((hK.2.2.2.2.1 i hi).moved hW).kept hH, hK.2.2.2.2.2.1, ⟨va_AO.moved hW hK.2.2.2.2.2.2.1.1, va_AO.moved hW hK.2.2.2.2.2.2.1.2.1, va_AO.moved hW hK.2.2.2.2.2.2.1.2.2⟩, hV, (hK.2.2.2.2.2.2.2.2.1.moved hW).kept hH, (hK.2.2.2.2.2.2.2.2.2.1.moved hW).kept hH, (hK.2.2.2.2.2.2.2.2.2.2.moved hW).kept hH⟩
theorem zK.warm {U : State} (hK : zK G s) (hW : s.WarmedH U.vm) (hU : U.heap = H) (hS : va_S (zA G) s.heap H locs) : zK G U := hK.moved hW.alike (fun q hq => va_Nw.warmM hW (hK.2.1 q hq)) (va_Nw.warmF hW hK.2.2.1) (fun i hi => (hK.2.2.2.2.2.2.2.1 i hi).warm hW) (fun a ha hA => by rw [hU]; exact hS.2.1 a ha hA)
theorem zPre.blind : FrameBlind (zPre G cp nx av σ) := fun a U g mk ⟨h1, h2, h3, h4⟩ =>
  ⟨h1, h2, zK.moved (s := U) (U := U.calling g mk a) h3 (Vm.Alike.refl U.vm) (fun q hq => va_Nw.same rfl rfl (h3.2.1 q hq)) (va_Nw.same rfl rfl h3.2.2.1) (fun i hi => vk_R.same rfl (h3.2.2.2.2.2.2.2.1 i hi)) (fun _ _ _ => rfl), h4⟩
theorem zPre.to (hK : zK G s) (hR : zRep G cp nx σ H) (hS : va_S (zA G) s.heap H locs) (hok : ∀ q ∈ av, zok G nx q) : ∀ U : State, U.heap = H → s.WarmedH U.vm → zPre G cp nx av σ (av.map (zval G)).toArray U := fun U hU hW => ⟨rfl, by rw [hU]; exact hR, hK.warm hW hU hS, hok⟩
/-- behind a call -/
theorem zcall {lsA : Array Slot} {st0 : List Value} {a : Array Value} (h0 : nx0 ≤ nx) (hn : nx ≤ nx1) (hE : nx1 ≤ nxE) (hL : zLc G nx nL ls lsA) (hs : ∀ v ∈ rest, zok G nx v) (hS : va_S (zA G) s.heap H locs) (hr : va_Run p l e R s m args below meth c H locs (nx - nx0) (zsl nx - zsl nx0) (nx1 - nx) (zsl nx1 - zsl nx) (F0 m pc lsA st0) (rest.map (zval G)) (zPost G cp1 nx1 Q a) (zA G))
    (k : ∀ v σ1, Q v σ1 → zJ G nL nx0 nxE p l e R s m args below meth c Qm cp1 nx1 (pc + 3) ls (v.toList ++ rest) σ1) : W p l e R s m args below meth c H locs (nx - nx0) (zsl nx - zsl nx0) Qm (F0 m pc lsA st0) := by
  intro T hT X
  obtain ⟨v, st₀, t, T', L, e0, X', hLL, e1, e2, ⟨⟨w, σ1, hv, hq, hok, hrep⟩, hz, hk⟩, stp⟩ := hr T hT X
  have hv : v = w.map (zval G) := Outcome.returned.inj hv
  rw [e0] at hz hk
  have m0 := zsl_mono h0
  have m1 := zsl_mono hn
  have c1 : nx - nx0 + (nx1 - nx) = nx1 - nx0 := by omega
  have c2 : zsl nx - zsl nx0 + (zsl nx1 - zsl nx) = zsl nx1 - zsl nx0 := by omega
  rw [c1, c2] at X'
  have hall : ∀ u ∈ w.toList ++ rest, zok G nx1 u := by
    intro u hu
    rcases List.mem_append.mp hu with h | h
    · cases w with
      | none => cases h
      | some z => rw [List.mem_singleton.mp h]; exact hok z rfl
    · exact (hs u h).up hn
  obtain ⟨t2, a1, b1⟩ := k w σ1 hq (by omega) hE T'.heap (locs ++ L) lsA (by rw [e1]; exact hrep) (hL.up hn) hall
    ⟨Nat.le_trans hS.1 (by rw [e1]; exact hz), fun q h1 h2 => by rw [e1, hk q (Nat.lt_of_lt_of_le h1 hS.1) h2]; exact hS.2.1 q h1 h2, fun q hq => by
      rcases List.mem_append.mp hq with h | h
      · exact hS.2.2 q h
      · exact hLL q h⟩ T' rfl X'
  refine ⟨t2, stp t2 ?_, b1⟩
  rw [List.map_append] at a1
  subst hv
  cases w <;> exact a1
theorem zfixed (hC : zCx G d y nx0 nxE p R s m args meth c) (hyo : (zmt y).1.cls = zown (zmo y)) : CallFix p m c (zmt y).2.1 (zmt y).2.2.1 s args ztb (zown (zmo y)) := by
  obtain ⟨hx, hb, hml, hown, hts, -⟩ := hC
  rw [hyo] at hown
  exact ⟨hx, hb, hml, hown, hts⟩
theorem zrooms (hC : zCx G (d + 1) y nx0 nxE p R s m args meth c) {a d0 : Nat} (ha : a < 309) (hd0 : d0 ≤ d) : (zrm d0 nx nx1).frames + 1 ≤ R.frames ∧ 8 + ((zmt a).2.2.1 + 11) + (zrm d0 nx nx1).locals ≤ R.locals := by
  obtain ⟨-, -, -, -, -, -, -, hfr, hlo, -⟩ := hC
  have h30 := (zm_all a ha).2.2.2.2.2.2.2.2.1
  refine ⟨?_, ?_⟩
  · show d0 + 1 ≤ R.frames
    omega
  · show 8 + ((zmt a).2.2.1 + 11) + 60 * d0 ≤ R.locals
    omega
theorem zspace (hC : zCx G d y nx0 nxE p R s m args meth c) (h0 : nx0 ≤ nx) (hn : nx ≤ nx1) (hE : nx1 ≤ nxE) : nx - nx0 + (nx1 - nx) ≤ R.cells ∧ zsl nx - zsl nx0 + (zsl nx1 - zsl nx) ≤ R.slots := by
  obtain ⟨-, -, -, -, -, -, -, -, -, hc, hs, -⟩ := hC
  have m0 := zsl_mono h0
  have m1 := zsl_mono hn
  have m2 := zsl_mono hE
  exact ⟨by omega, by omega⟩
theorem zB (hC : zCx G (d + 1) y nx0 nxE p R s m args meth c) {a d0 idx : Nat} (ha : a < 309) (hd0 : d0 ≤ d) (hw : Cond.methodLink (zown (zmo y)) idx (zmt a).1 ∈ ztb) : CallB R s args (zown (zmo y)) idx (zmt a).1 (zmt a).2.1 (zmt a).2.2.1 (zmt a).2.2.2 (zwd a) (zrm d0 nx nx1) (nx1 - nx) (zsl nx1 - zsl nx) (zmp a).2.2.2.2 := by
  have hroom := zrooms (nx := nx) (nx1 := nx1) hC ha hd0
  obtain ⟨hx, hb, hml, hown, hts, -⟩ := hC
  obtain ⟨i1, -, -, -, -, i6, i7, i8, -⟩ := zm_all a ha
  exact callB_of _ hts (zgood a ha) rfl rfl rfl (hts _ i1) (hts _ hw) ⟨i6, i7, i8⟩ hroom
theorem zN (hC : zCx G (d + 1) y nx0 nxE p R s m args meth c) {a d0 idx : Nat} (ha : a < 309) (hd0 : d0 ≤ d) (hw : va_Nw (.methodLinkNest (zown (zmo y)) idx (zmt a).1 "WindowRing") s) : va_CN R s args (zown (zmo y)) idx (zmt a).1 "WindowRing" (zmt a).2.1 (zmt a).2.2.1 (zmt a).2.2.2 (zwd a) (zrm d0 nx nx1) (nx1 - nx) (zsl nx1 - zsl nx) (zmp a).2.2.2.2 := by
  have hroom := zrooms (nx := nx) (nx1 := nx1) hC ha hd0
  obtain ⟨hx, hb, hml, hown, hts, -⟩ := hC
  obtain ⟨i1, -, -, -, -, i6, i7, i8, -⟩ := zm_all a ha
  exact va_cnB _ hts (zgood a ha) rfl rfl rfl hw (hts _ i1) ⟨i6, i7, i8⟩ hroom
theorem znw_of (hK : zK G s) {a idx : Nat} (h : ∃ q ∈ znlL, q.1 = zmo y ∧ q.2.1 = idx ∧ q.2.2.1 = a) : va_Nw (.methodLinkNest (zown (zmo y)) idx (zmt a).1 "WindowRing") s := by
  obtain ⟨q, hq, e1, e2, e3⟩ := h
  have := hK.2.1 q hq
  rwa [e1, e2, e3] at this
theorem zstk (h : st = av.reverse ++ rest) : st.map (zval G) = (av.map (zval G)).reverse ++ rest.map (zval G) := by rw [h, List.map_append, List.map_reverse]
theorem zst_app (h : st = av.reverse ++ rest) (hs : ∀ v ∈ st, zok G nx v) : (∀ v ∈ av, zok G nx v) ∧ ∀ v ∈ rest, zok G nx v := by
  subst h
  exact ⟨fun v hv => hs v (List.mem_append_left _ (List.mem_reverse.mpr hv)), fun v hv => hs v (List.mem_append_right _ hv)⟩
/-- a call of a static method -/
theorem zj_callS (hC : zCx G (d + 1) y nx0 nxE p R s m args meth c) (hyo : (zmt y).1.cls = zown (zmo y)) (hnL : nL = (zmt y).2.2.1) {a b idx : Nat} (ha : a < 309) (hw : Cond.methodLink (zown (zmo y)) idx (zmt a).1 ∈ ztb) (hms : zms a = true) (hb : (zmp a).2.2.2.2 = b) (hav : av.length = b) (hst : st = av.reverse ++ rest) (h8 : rest.length ≤ 8) (hd : decode (zmt y).2.1 pc = .ok (.invokestatic idx, 3))
    (hcl : zCl d cp nx cp nx a av σ Q) (k : ∀ v σ1, Q v σ1 → zJ G nL nx0 nxE p l e R s m args below meth c Qm cp nx (pc + 3) ls (v.toList ++ rest) σ1) : zJ G nL nx0 nxE p l e R s m args below meth c Qm cp nx pc ls st σ := by
  intro h0 hE H locs lsA hR hL hs hS
  obtain ⟨d0, hd0, -, -, hM⟩ := hcl
  obtain ⟨s1, s2⟩ := zst_app hst hs
  have hK := hC.2.2.2.2.2.1
  refine zcall h0 (Nat.le_refl _) hE hL s2 hS (va_runS (As := av.map (zval G)) (zfixed hC hyo) (hM l G) ⟨zB hC ha hd0 hw, hC.2.2.2.2.1 _ ((zm_all a ha).2.1 hms)⟩ ⟨zPre.blind, zPre.to hK hR hS s1⟩ rfl (by rw [List.length_map, hav, hb]) (by show lsA.size = _; rw [hL.2.1, hnL]) (zstk hst) (lv_room (by rw [zcat_sum]; exact h8)) hd (zspace hC h0 (Nat.le_refl _) hE)) k
theorem zj_callSN (hC : zCx G (d + 1) y nx0 nxE p R s m args meth c) (hyo : (zmt y).1.cls = zown (zmo y)) (hnL : nL = (zmt y).2.2.1) {a b idx : Nat} (ha : a < 309) (hw : ∃ q ∈ znlL, q.1 = zmo y ∧ q.2.1 = idx ∧ q.2.2.1 = a) (hms : zms a = true) (hb : (zmp a).2.2.2.2 = b) (hav : av.length = b) (hst : st = av.reverse ++ rest) (h8 : rest.length ≤ 8) (hd : decode (zmt y).2.1 pc = .ok (.invokestatic idx, 3))
    (hcl : zCl d cp nx cp nx a av σ Q) (k : ∀ v σ1, Q v σ1 → zJ G nL nx0 nxE p l e R s m args below meth c Qm cp nx (pc + 3) ls (v.toList ++ rest) σ1) : zJ G nL nx0 nxE p l e R s m args below meth c Qm cp nx pc ls st σ := by
  intro h0 hE H locs lsA hR hL hs hS
  obtain ⟨d0, hd0, -, -, hM⟩ := hcl
  obtain ⟨s1, s2⟩ := zst_app hst hs
  have hK := hC.2.2.2.2.2.1
  refine zcall h0 (Nat.le_refl _) hE hL s2 hS (va_runSN (As := av.map (zval G)) (zfixed hC hyo) (hM l G) ⟨zN hC ha hd0 (znw_of hK hw), hC.2.2.2.2.1 _ ((zm_all a ha).2.1 hms), trivial⟩ ⟨zPre.blind, zPre.to hK hR hS s1⟩ rfl (by rw [List.length_map, hav, hb]) (by show lsA.size = _; rw [hL.2.1, hnL]) (zstk hst) (lv_room (by rw [zcat_sum]; exact h8)) hd (zspace hC h0 (Nat.le_refl _) hE)) k
theorem zstk2 {t n o : Nat} (h : st = ((.inr (t, n, o) : zV) :: av).reverse ++ rest) : st.map (zval G) = (av.map (zval G)).reverse ++ .ref (zrho G o) :: rest.map (zval G) := by
  rw [h, List.reverse_cons, List.append_assoc, List.map_append, List.map_reverse]
  rfl
/-- a call of a method of an object -/
theorem zj_callV (hC : zCx G (d + 1) y nx0 nxE p R s m args meth c) (hyo : (zmt y).1.cls = zown (zmo y)) (hnL : nL = (zmt y).2.2.1) {a idx t n o : Nat} (ha : a < 309) (hw : Cond.methodLink (zown (zmo y)) idx (zmt a).1 ∈ ztb) (hms : zms a = false) (hni : (zmt a).1.name ≠ "<init>") (ht : t = zmo a) (ht10 : zmo a < 10) (hav : av.length = (zmp a).2.2.2.2) (hst : st = ((.inr (t, n, o) : zV) :: av).reverse ++ rest) (h8 : rest.length ≤ 8) (hd : decode (zmt y).2.1 pc = .ok (.invokevirtual idx, 3))
    (hcl : zCl d cp nx cp nx a (.inr (t, n, o) :: av) σ Q) (k : ∀ v σ1, Q v σ1 → zJ G nL nx0 nxE p l e R s m args below meth c Qm cp nx (pc + 3) ls (v.toList ++ rest) σ1) : zJ G nL nx0 nxE p l e R s m args below meth c Qm cp nx pc ls st σ := by
  intro h0 hE H locs lsA hR hL hs hS
  obtain ⟨d0, hd0, -, -, hM⟩ := hcl
  obtain ⟨s1, s2⟩ := zst_app hst hs
  have hK := hC.2.2.2.2.2.1
  have hts := hC.2.2.2.2.1
  obtain ⟨i1, -, i3, i4, i5, -⟩ := zm_all a ha
  have hz0 : zat G nx o t n := s1 (.inr (t, n, o)) List.mem_cons_self
  obtain ⟨ho, hly⟩ := zobj hz0 (by omega)
  have he := zws_get (G := G) (cp := cp) (σ := σ) ho
  rw [zenc_obj hly (by omega)] at he
  obtain ⟨r, hr⟩ : ∃ r, zcl[t]? = some r := ⟨_, List.getElem?_eq_getElem (by show t < 10; omega)⟩
  have hrc : r.1 = (zmt a).1.cls := by
    have h9 := List.all_eq_true.mp zdcl_ck t (List.mem_range.mpr (zcl_lt hr))
    rw [hr] at h9
    simp only [Bool.and_eq_true, decide_eq_true_eq] at h9
    rw [h9.1, i5, ht]
  have hrec := va_recv hK.1 hR.2.2.1 hr he
  rw [hrc, ← zrho_lt ho hR.2.1] at hrec
  refine zcall h0 (Nat.le_refl _) hE hL s2 hS (va_runV (C := (zmt a).1.cls) (b := zrho G o) (As := av.map (zval G)) (zfixed hC hyo) (hM l G) ⟨zB hC ha hd0 hw, hts _ (i3 hms), hts _ (i4 hms hni)⟩ ⟨zPre.blind, hrec, zPre.to hK hR hS s1⟩ rfl (by rw [List.length_map, hav]) (by show lsA.size = _; rw [hL.2.1, hnL]) (zstk2 hst) (lv_room (by rw [zcat_sum]; exact h8)) hd (zspace hC h0 (Nat.le_refl _) hE)) k
/-- a call of a method of a String constant -/
theorem zj_callT (hC : zCx G (d + 1) y nx0 nxE p R s m args meth c) (hyo : (zmt y).1.cls = zown (zmo y)) (hnL : nL = (zmt y).2.2.1) {a idx n o : Nat} (ha : a < 309) (hw : Cond.methodLink (zown (zmo y)) idx (zmt a).1 ∈ ztb) (hms : zms a = false) (hni : (zmt a).1.name ≠ "<init>") (h12 : zmo a = 12) (hav : av.length = (zmp a).2.2.2.2) (hst : st = ((.inr (30, n, o) : zV) :: av).reverse ++ rest) (h8 : rest.length ≤ 8) (hd : decode (zmt y).2.1 pc = .ok (.invokevirtual idx, 3))
    (hcl : zCl d cp nx cp nx a (.inr (30, n, o) :: av) σ Q) (k : ∀ v σ1, Q v σ1 → zJ G nL nx0 nxE p l e R s m args below meth c Qm cp nx (pc + 3) ls (v.toList ++ rest) σ1) : zJ G nL nx0 nxE p l e R s m args below meth c Qm cp nx pc ls st σ := by
  intro h0 hE H locs lsA hR hL hs hS
  obtain ⟨d0, hd0, -, -, hM⟩ := hcl
  obtain ⟨s1, s2⟩ := zst_app hst hs
  have hK := hC.2.2.2.2.2.1
  have hts := hC.2.2.2.2.1
  obtain ⟨i1, -, i3, i4, i5, -⟩ := zm_all a ha
  have hz0 : zat G nx o 30 n := s1 (.inr (30, n, o)) List.mem_cons_self
  obtain ⟨hn, ho⟩ := zst30 hR hz0
  have hrec := vk_recv hK.2.2.2.2.2.2.2.2.1 hn hS
  have hcls : (zmt a).1.cls = "java/lang/String" := by rw [i5, h12]; rfl
  rw [← hcls] at hrec
  have hz : zrho G o = G.2.2.2.1 (10 + n) := by rw [ho, zrho_st]
  rw [← hz] at hrec
  refine zcall h0 (Nat.le_refl _) hE hL s2 hS (va_runV (C := (zmt a).1.cls) (b := zrho G o) (As := av.map (zval G)) (zfixed hC hyo) (hM l G) ⟨zB hC ha hd0 hw, hts _ (i3 hms), hts _ (i4 hms hni)⟩ ⟨zPre.blind, hrec, zPre.to hK hR hS s1⟩ rfl (by rw [List.length_map, hav]) (by show lsA.size = _; rw [hL.2.1, hnL]) (zstk2 hst) (lv_room (by rw [zcat_sum]; exact h8)) hd (zspace hC h0 (Nat.le_refl _) hE)) k
/-- a call of a constructor -/
theorem zj_callI (hC : zCx G (d + 1) y nx0 nxE p R s m args meth c) (hyo : (zmt y).1.cls = zown (zmo y)) (hnL : nL = (zmt y).2.2.1) {a idx t n o : Nat} (ha : a < 309) (hw : Cond.methodLink (zown (zmo y)) idx (zmt a).1 ∈ ztb ∨ ∃ q ∈ znlL, q.1 = zmo y ∧ q.2.1 = idx ∧ q.2.2.1 = a) (hms : zms a = false) (hni : (zmt a).1.name = "<init>") (hret : (zmt a).2.2.2 = none) (hav : av.length = (zmp a).2.2.2.2) (hst : st = ((.inr (t, n, o) : zV) :: av).reverse ++ rest) (h8 : rest.length ≤ 8) (hE1 : nx1 ≤ nxE) (hd : decode (zmt y).2.1 pc = .ok (.invokespecial idx, 3))
    (hcl : zCl d cp nx cp1 nx1 a (.inr (t, n, o) :: av) σ Q) (k : ∀ v σ1, Q v σ1 → zJ G nL nx0 nxE p l e R s m args below meth c Qm cp1 nx1 (pc + 3) ls (v.toList ++ rest) σ1) : zJ G nL nx0 nxE p l e R s m args below meth c Qm cp nx pc ls st σ := by
  intro h0 hE H locs lsA hR hL hs hS
  obtain ⟨d0, hd0, hnn, -, hM⟩ := hcl
  obtain ⟨s1, s2⟩ := zst_app hst hs
  have hK := hC.2.2.2.2.2.1
  have hts := hC.2.2.2.2.1
  obtain ⟨i1, -, i3, -⟩ := zm_all a ha
  refine zcall h0 hnn hE1 hL s2 hS ?_ k (a := (Value.ref (zrho G o) :: av.map (zval G)).toArray)
  rcases hw with hw | hw
  · have hB := zB (nx := nx) (nx1 := nx1) hC ha hd0 hw
    rw [hret] at hB
    exact va_runI (b := zrho G o) (As := av.map (zval G)) (zfixed hC hyo) (hM l G) ⟨hB, hni, hts _ (i3 hms)⟩ ⟨zPre.blind, zPre.to hK hR hS s1⟩ rfl (by rw [List.length_map, hav]) (by show lsA.size = _; rw [hL.2.1, hnL]) (zstk2 hst) (lv_room (by rw [zcat_sum]; exact h8)) hd (zspace hC h0 hnn hE1)
  · have hB := zN (nx := nx) (nx1 := nx1) hC ha hd0 (znw_of hK hw)
    rw [hret] at hB
    exact va_runIN (b := zrho G o) (As := av.map (zval G)) (zfixed hC hyo) (hM l G) ⟨hB, hni, hts _ (i3 hms)⟩ ⟨zPre.blind, zPre.to hK hR hS s1⟩ rfl (by rw [List.length_map, hav]) (by show lsA.size = _; rw [hL.2.1, hnL]) (zstk2 hst) (lv_room (by rw [zcat_sum]; exact h8)) hd (zspace hC h0 hnn hE1)
end ZJ5
