/-! each instruction, from the machine's row to the pure machine: what leaves the cells alone -/
section ZL
variable {G : zG}
theorem zval_cat (v : zV) : (zval G v).category = 1 := by cases v <;> rfl
theorem zcat_sum (st : List zV) : ((st.map (zval G)).map fun v => v.category).sum = st.length := by
  induction st with
  | nil => rfl
  | cons a t ih => simp only [List.map_cons, List.sum_cons, zval_cat, ih, List.length_cons]; omega
theorem zst_tl {P : zV → Prop} {a : zV} {st : List zV} (h : ∀ v ∈ a :: st, P v) : ∀ v ∈ st, P v := fun v hv => h v (List.mem_cons_of_mem _ hv)
theorem zst_cn {P : zV → Prop} {a : zV} {st : List zV} (h : P a) (hs : ∀ v ∈ st, P v) : ∀ v ∈ a :: st, P v := fun v hv => (List.mem_cons.mp hv).elim (fun e => e ▸ h) (hs v)
def zll (G : zG) (ls : List (Option zV)) : List (Nat × Value) := (List.range ls.length).flatMap (fun i => match ls[i]? with
  | some (some v) => [(i, zval G v)]
  | _ => [])
theorem zll_mem {ls : List (Option zV)} {i : Nat} {v : zV} (h : ls[i]? = some (some v)) : (i, zval G v) ∈ zll G ls := by
  refine List.mem_flatMap.mpr ⟨i, List.mem_range.mpr (List.getElem?_eq_some_iff.mp h).1, ?_⟩
  rw [h]
  exact List.mem_cons_self
theorem zll_of {ls : List (Option zV)} {q : Nat × Value} (h : q ∈ zll G ls) : ∃ v, ls[q.1]? = some (some v) ∧ q.2 = zval G v := by
  obtain ⟨i, hi, hq⟩ := List.mem_flatMap.mp h
  cases hl : ls[i]? with
  | none => rw [hl] at hq; cases hq
  | some o =>
    cases o with
    | none => rw [hl] at hq; cases hq
    | some v =>
      rw [hl] at hq
      rw [List.mem_singleton.mp hq]
      exact ⟨v, hl, rfl⟩
theorem zLc.has {nx nL : Nat} {ls : List (Option zV)} {lsA : Array Slot} (h : zLc G nx nL ls lsA) : lv_has lsA nL (zll G ls) := ⟨h.2.1, h.2.2.1, fun q hq => by
  obtain ⟨v, h1, h2⟩ := zll_of hq
  rw [h2]
  exact (h.2.2.2 _ _ h1).1⟩
theorem zLc.at {nx nL i : Nat} {v : zV} {ls : List (Option zV)} {lsA : Array Slot} (h : zLc G nx nL ls lsA) (hi : ls[i]? = some (some v)) : lsA[i]? = some (.val (zval G v)) := (h.2.2.2 i v hi).1
theorem zLc.set {nx nL i : Nat} {v : zV} {o : Option zV} {ls : List (Option zV)} {lsA ls1 : Array Slot} (h : zLc G nx nL ls lsA) (hi : ls[i]? = some o) (hv : zok G nx v)
    (h1 : lv_has ls1 nL ((i, zval G v) :: (zll G ls).filter (fun q => !(q.1 == i) && !(q.1 + 1 == i && q.2.category == 2)))) : zLc G nx nL (ls.set i (some v)) ls1 := by
  have hlt : i < ls.length := (List.getElem?_eq_some_iff.mp hi).1
  refine ⟨by rw [List.length_set]; exact h.1, h1.1, h1.2.1, fun j w hj => ?_⟩
  rw [List.getElem?_set] at hj
  by_cases hij : i = j
  · subst hij
    rw [if_pos rfl, if_pos hlt] at hj
    cases hj
    exact ⟨h1.2.2 _ List.mem_cons_self, hv⟩
  · rw [if_neg hij] at hj
    refine ⟨h1.2.2 (j, zval G w) (List.mem_cons_of_mem _ (List.mem_filter.mpr ⟨zll_mem hj, ?_⟩)), (h.2.2.2 j w hj).2⟩
    have e1 : (j == i) = false := by simp [Ne.symm hij]
    have e2 : ((zval G w).category == 2) = false := by rw [zval_cat]; rfl
    simp [e1, e2]
theorem zLc.lt {nx nL i : Nat} {o : Option zV} {ls : List (Option zV)} {lsA : Array Slot} (h : zLc G nx nL ls lsA) (hi : ls[i]? = some o) : i < nL := by
  rw [← h.1]
  exact (List.getElem?_eq_some_iff.mp hi).1
theorem zat.up {nx nx1 a t n : Nat} (h : zat G nx a t n) (hn : nx ≤ nx1) : zat G nx1 a t n := h.elim (fun h => Or.inl ⟨Nat.lt_of_lt_of_le h.1 hn, h.2⟩) Or.inr
theorem zok.up {nx nx1 : Nat} {v : zV} (h : zok G nx v) (hn : nx ≤ nx1) : zok G nx1 v := by
  cases v with
  | inl x => trivial
  | inr q => exact zat.up h hn
theorem zLc.up {nx nx1 nL : Nat} {ls : List (Option zV)} {lsA : Array Slot} (h : zLc G nx nL ls lsA) (hn : nx ≤ nx1) : zLc G nx1 nL ls lsA := ⟨h.1, h.2.1, h.2.2.1, fun i v hi => ⟨(h.2.2.2 i v hi).1, (h.2.2.2 i v hi).2.up hn⟩⟩
theorem zst_up {nx nx1 : Nat} {st : List zV} (h : ∀ v ∈ st, zok G nx v) (hn : nx ≤ nx1) : ∀ v ∈ st, zok G nx1 v := fun v hv => (h v hv).up hn
end ZL
section ZJ1
variable {G : zG} {nL nx0 nxE : Nat} {p : Program} {l : Launch} {e : Env} {R : Room} {s : State} {m : MethodId} {args : Array Value} {below : List Frame} {meth : Method} {c : Code} {Qm : State → Prop} {cp : Nat → Bool} {nx pc : Nat} {ls : List (Option zV)} {st : List zV} {σ : zS} {cc : ByteArray}
theorem zofi (x : Int32) : Int32.ofInt x.toInt = x := by simp
theorem zfin {a : Nat} (h : Nat.blt a 4 = true) : ((Fin.ofNat 4 a : Fin 4) : Nat) = a := by
  have : a < 4 := by simpa [Nat.blt_eq] using h
  simp [Fin.ofNat, Nat.mod_eq_of_lt this]
theorem zj_iconst (hx : p.tables.exec = Jvm.exec) (hb : c.code = cc) {x : Int32} (hd : decode cc pc = .ok (.iconst x.toInt, 1)) (k : zJ G nL nx0 nxE p l e R s m args below meth c Qm cp nx (pc + 1) ls (.inl x :: st) σ) : zJ G nL nx0 nxE p l e R s m args below meth c Qm cp nx pc ls st σ :=
  fun h0 hE H locs lsA hR hL hs hS => lv_iconst hx hb hd (zofi x) (k h0 hE H locs lsA hR hL (zst_cn trivial hs) hS)
theorem zj_bipush (hx : p.tables.exec = Jvm.exec) (hb : c.code = cc) {x : Int32} (hi : (Int8.ofInt x.toInt).toInt32 = x) (hd : decode cc pc = .ok (.bipush x.toInt, 2)) (k : zJ G nL nx0 nxE p l e R s m args below meth c Qm cp nx (pc + 2) ls (.inl x :: st) σ) : zJ G nL nx0 nxE p l e R s m args below meth c Qm cp nx pc ls st σ :=
  fun h0 hE H locs lsA hR hL hs hS => lv_bipush hx hb hd hi (k h0 hE H locs lsA hR hL (zst_cn trivial hs) hS)
theorem zj_sipush (hx : p.tables.exec = Jvm.exec) (hb : c.code = cc) {x : Int32} (hi : (Int16.ofInt x.toInt).toInt32 = x) (hd : decode cc pc = .ok (.sipush x.toInt, 3)) (k : zJ G nL nx0 nxE p l e R s m args below meth c Qm cp nx (pc + 3) ls (.inl x :: st) σ) : zJ G nL nx0 nxE p l e R s m args below meth c Qm cp nx pc ls st σ :=
  fun h0 hE H locs lsA hR hL hs hS => lv_sipush hx hb hd hi (k h0 hE H locs lsA hR hL (zst_cn trivial hs) hS)
theorem zj_ldc (hx : p.tables.exec = Jvm.exec) (hb : c.code = cc) {own : String} {idx : Nat} {x : Int32} (hown : s.vm.findClass own = some m.cls) (hc : (Jvm.Cond.constant own idx x).before args s = true) (hd : decode cc pc = .ok (.ldc idx, 2)) (k : zJ G nL nx0 nxE p l e R s m args below meth c Qm cp nx (pc + 2) ls (.inl x :: st) σ) : zJ G nL nx0 nxE p l e R s m args below meth c Qm cp nx pc ls st σ :=
  fun h0 hE H locs lsA hR hL hs hS => lv_ldc hx hb hown hc hd (k h0 hE H locs lsA hR hL (zst_cn trivial hs) hS)
theorem zj_ldcw (hx : p.tables.exec = Jvm.exec) (hb : c.code = cc) {own : String} {idx : Nat} {x : Int32} (hown : s.vm.findClass own = some m.cls) (hc : (Jvm.Cond.constant own idx x).before args s = true) (hd : decode cc pc = .ok (.ldc_w idx, 3)) (k : zJ G nL nx0 nxE p l e R s m args below meth c Qm cp nx (pc + 3) ls (.inl x :: st) σ) : zJ G nL nx0 nxE p l e R s m args below meth c Qm cp nx pc ls st σ :=
  fun h0 hE H locs lsA hR hL hs hS => lv_ldcw hx hb hown hc hd (k h0 hE H locs lsA hR hL (zst_cn trivial hs) hS)
theorem zj_iload_n (hx : p.tables.exec = Jvm.exec) (hb : c.code = cc) {a : Nat} {x : Int32} (ha : Nat.blt a 4 = true) (hl : ls[a]? = some (some (.inl x))) (hd : decode cc pc = .ok (.iload_n (Fin.ofNat 4 a), 1)) (k : zJ G nL nx0 nxE p l e R s m args below meth c Qm cp nx (pc + 1) ls (.inl x :: st) σ) : zJ G nL nx0 nxE p l e R s m args below meth c Qm cp nx pc ls st σ :=
  fun h0 hE H locs lsA hR hL hs hS => lv_iload_n hx hb hd (zfin ha) (hL.at hl) (k h0 hE H locs lsA hR hL (zst_cn trivial hs) hS)
theorem zj_iload (hx : p.tables.exec = Jvm.exec) (hb : c.code = cc) {a : Nat} {x : Int32} (hl : ls[a]? = some (some (.inl x))) (hd : decode cc pc = .ok (.iload a, 2)) (k : zJ G nL nx0 nxE p l e R s m args below meth c Qm cp nx (pc + 2) ls (.inl x :: st) σ) : zJ G nL nx0 nxE p l e R s m args below meth c Qm cp nx pc ls st σ :=
  fun h0 hE H locs lsA hR hL hs hS => lv_iload hx hb hd (hL.at hl) (k h0 hE H locs lsA hR hL (zst_cn trivial hs) hS)
theorem zj_aload_n (hx : p.tables.exec = Jvm.exec) (hb : c.code = cc) {a : Nat} {x : Nat × Nat × Nat} (ha : Nat.blt a 4 = true) (hl : ls[a]? = some (some (.inr x))) (hd : decode cc pc = .ok (.aload_n (Fin.ofNat 4 a), 1)) (k : zJ G nL nx0 nxE p l e R s m args below meth c Qm cp nx (pc + 1) ls (.inr x :: st) σ) : zJ G nL nx0 nxE p l e R s m args below meth c Qm cp nx pc ls st σ :=
  fun h0 hE H locs lsA hR hL hs hS => lv_aload_n hx hb hd (zfin ha) (hL.at hl) (k h0 hE H locs lsA hR hL (zst_cn (hL.2.2.2 _ _ hl).2 hs) hS)
theorem zj_aload (hx : p.tables.exec = Jvm.exec) (hb : c.code = cc) {a : Nat} {x : Nat × Nat × Nat} (hl : ls[a]? = some (some (.inr x))) (hd : decode cc pc = .ok (.aload a, 2)) (k : zJ G nL nx0 nxE p l e R s m args below meth c Qm cp nx (pc + 2) ls (.inr x :: st) σ) : zJ G nL nx0 nxE p l e R s m args below meth c Qm cp nx pc ls st σ :=
  fun h0 hE H locs lsA hR hL hs hS => lv_aload hx hb hd (hL.at hl) (k h0 hE H locs lsA hR hL (zst_cn (hL.2.2.2 _ _ hl).2 hs) hS)
theorem zj_istore_n (hx : p.tables.exec = Jvm.exec) (hb : c.code = cc) {a : Nat} {x : Int32} {o : Option zV} (ha : Nat.blt a 4 = true) (hl : ls[a]? = some o) (hd : decode cc pc = .ok (.istore_n (Fin.ofNat 4 a), 1)) (k : zJ G nL nx0 nxE p l e R s m args below meth c Qm cp nx (pc + 1) (ls.set a (some (.inl x))) st σ) : zJ G nL nx0 nxE p l e R s m args below meth c Qm cp nx pc ls (.inl x :: st) σ :=
  fun h0 hE H locs lsA hR hL hs hS => lv_istore_n hx hb hd (zfin ha) hL.has (hL.lt hl) rfl (fun ls1 h1 => k h0 hE H locs ls1 hR (hL.set (v := .inl x) hl trivial h1) (zst_tl hs) hS)
theorem zj_istore (hx : p.tables.exec = Jvm.exec) (hb : c.code = cc) {a : Nat} {x : Int32} {o : Option zV} (hl : ls[a]? = some o) (hd : decode cc pc = .ok (.istore a, 2)) (k : zJ G nL nx0 nxE p l e R s m args below meth c Qm cp nx (pc + 2) (ls.set a (some (.inl x))) st σ) : zJ G nL nx0 nxE p l e R s m args below meth c Qm cp nx pc ls (.inl x :: st) σ :=
  fun h0 hE H locs lsA hR hL hs hS => lv_istore hx hb hd hL.has (hL.lt hl) rfl (fun ls1 h1 => k h0 hE H locs ls1 hR (hL.set (v := .inl x) hl trivial h1) (zst_tl hs) hS)
theorem zj_astore_n (hx : p.tables.exec = Jvm.exec) (hb : c.code = cc) {a : Nat} {x : Nat × Nat × Nat} {o : Option zV} (ha : Nat.blt a 4 = true) (hl : ls[a]? = some o) (hd : decode cc pc = .ok (.astore_n (Fin.ofNat 4 a), 1)) (k : zJ G nL nx0 nxE p l e R s m args below meth c Qm cp nx (pc + 1) (ls.set a (some (.inr x))) st σ) : zJ G nL nx0 nxE p l e R s m args below meth c Qm cp nx pc ls (.inr x :: st) σ :=
  fun h0 hE H locs lsA hR hL hs hS => lv_astore_n hx hb hd (zfin ha) hL.has (hL.lt hl) rfl (fun ls1 h1 => k h0 hE H locs ls1 hR (hL.set (v := .inr x) hl (hs _ List.mem_cons_self) h1) (zst_tl hs) hS)
theorem zj_astore (hx : p.tables.exec = Jvm.exec) (hb : c.code = cc) {a : Nat} {x : Nat × Nat × Nat} {o : Option zV} (hl : ls[a]? = some o) (hd : decode cc pc = .ok (.astore a, 2)) (k : zJ G nL nx0 nxE p l e R s m args below meth c Qm cp nx (pc + 2) (ls.set a (some (.inr x))) st σ) : zJ G nL nx0 nxE p l e R s m args below meth c Qm cp nx pc ls (.inr x :: st) σ :=
  fun h0 hE H locs lsA hR hL hs hS => lv_astore hx hb hd hL.has (hL.lt hl) rfl (fun ls1 h1 => k h0 hE H locs ls1 hR (hL.set (v := .inr x) hl (hs _ List.mem_cons_self) h1) (zst_tl hs) hS)
theorem zj_iinc (hx : p.tables.exec = Jvm.exec) (hb : c.code = cc) {a : Nat} {x i : Int32} (hl : ls[a]? = some (some (.inl x))) (hd : decode cc pc = .ok (.iinc a i.toInt, 3)) (k : zJ G nL nx0 nxE p l e R s m args below meth c Qm cp nx (pc + 3) (ls.set a (some (.inl (x + i)))) st σ) : zJ G nL nx0 nxE p l e R s m args below meth c Qm cp nx pc ls st σ := by
  intro h0 hE H locs lsA hR hL hs hS
  obtain ⟨j, hj⟩ := List.getElem?_of_mem (zll_mem (G := G) hl)
  exact lv_iinc (k := j) (v := x + i) hx hb hd hL.has hj (by rw [zofi]) (hL.lt hl) rfl (fun ls1 h1 => k h0 hE H locs ls1 hR (hL.set (v := .inl (x + i)) hl trivial h1) hs hS)
theorem zj_iadd (hx : p.tables.exec = Jvm.exec) (hb : c.code = cc) {x y : Int32} (hd : decode cc pc = .ok (.iadd, 1)) (k : zJ G nL nx0 nxE p l e R s m args below meth c Qm cp nx (pc + 1) ls (.inl (x + y) :: st) σ) : zJ G nL nx0 nxE p l e R s m args below meth c Qm cp nx pc ls (.inl y :: .inl x :: st) σ :=
  fun h0 hE H locs lsA hR hL hs hS => lv_iadd hx hb hd (k h0 hE H locs lsA hR hL (zst_cn trivial (zst_tl (zst_tl hs))) hS)
theorem zj_isub (hx : p.tables.exec = Jvm.exec) (hb : c.code = cc) {x y : Int32} (hd : decode cc pc = .ok (.isub, 1)) (k : zJ G nL nx0 nxE p l e R s m args below meth c Qm cp nx (pc + 1) ls (.inl (x - y) :: st) σ) : zJ G nL nx0 nxE p l e R s m args below meth c Qm cp nx pc ls (.inl y :: .inl x :: st) σ :=
  fun h0 hE H locs lsA hR hL hs hS => lv_isub hx hb hd (k h0 hE H locs lsA hR hL (zst_cn trivial (zst_tl (zst_tl hs))) hS)
theorem zj_imul (hx : p.tables.exec = Jvm.exec) (hb : c.code = cc) {x y : Int32} (hd : decode cc pc = .ok (.imul, 1)) (k : zJ G nL nx0 nxE p l e R s m args below meth c Qm cp nx (pc + 1) ls (.inl (x * y) :: st) σ) : zJ G nL nx0 nxE p l e R s m args below meth c Qm cp nx pc ls (.inl y :: .inl x :: st) σ :=
  fun h0 hE H locs lsA hR hL hs hS => lv_imul hx hb hd (k h0 hE H locs lsA hR hL (zst_cn trivial (zst_tl (zst_tl hs))) hS)
theorem zj_iand (hx : p.tables.exec = Jvm.exec) (hb : c.code = cc) {x y : Int32} (hd : decode cc pc = .ok (.iand, 1)) (k : zJ G nL nx0 nxE p l e R s m args below meth c Qm cp nx (pc + 1) ls (.inl (x &&& y) :: st) σ) : zJ G nL nx0 nxE p l e R s m args below meth c Qm cp nx pc ls (.inl y :: .inl x :: st) σ :=
  fun h0 hE H locs lsA hR hL hs hS => lv_iand hx hb hd (k h0 hE H locs lsA hR hL (zst_cn trivial (zst_tl (zst_tl hs))) hS)
theorem zj_ior (hx : p.tables.exec = Jvm.exec) (hb : c.code = cc) {x y : Int32} (hd : decode cc pc = .ok (.ior, 1)) (k : zJ G nL nx0 nxE p l e R s m args below meth c Qm cp nx (pc + 1) ls (.inl (x ||| y) :: st) σ) : zJ G nL nx0 nxE p l e R s m args below meth c Qm cp nx pc ls (.inl y :: .inl x :: st) σ :=
  fun h0 hE H locs lsA hR hL hs hS => lv_ior hx hb hd (k h0 hE H locs lsA hR hL (zst_cn trivial (zst_tl (zst_tl hs))) hS)
theorem zj_ishl (hx : p.tables.exec = Jvm.exec) (hb : c.code = cc) {x y : Int32} (hd : decode cc pc = .ok (.ishl, 1)) (k : zJ G nL nx0 nxE p l e R s m args below meth c Qm cp nx (pc + 1) ls (.inl (x <<< (y &&& 31)) :: st) σ) : zJ G nL nx0 nxE p l e R s m args below meth c Qm cp nx pc ls (.inl y :: .inl x :: st) σ :=
  fun h0 hE H locs lsA hR hL hs hS => lv_ishl hx hb hd (k h0 hE H locs lsA hR hL (zst_cn trivial (zst_tl (zst_tl hs))) hS)
theorem zj_ishr (hx : p.tables.exec = Jvm.exec) (hb : c.code = cc) {x y : Int32} (hd : decode cc pc = .ok (.ishr, 1)) (k : zJ G nL nx0 nxE p l e R s m args below meth c Qm cp nx (pc + 1) ls (.inl (x >>> (y &&& 31)) :: st) σ) : zJ G nL nx0 nxE p l e R s m args below meth c Qm cp nx pc ls (.inl y :: .inl x :: st) σ :=
  fun h0 hE H locs lsA hR hL hs hS => lv_ishr hx hb hd (k h0 hE H locs lsA hR hL (zst_cn trivial (zst_tl (zst_tl hs))) hS)
theorem zj_iushr (hx : p.tables.exec = Jvm.exec) (hb : c.code = cc) {x y : Int32} (hd : decode cc pc = .ok (.iushr, 1)) (k : zJ G nL nx0 nxE p l e R s m args below meth c Qm cp nx (pc + 1) ls (.inl ((x.toUInt32 >>> (y.toUInt32 &&& Int32.toUInt32 31)).toInt32) :: st) σ) : zJ G nL nx0 nxE p l e R s m args below meth c Qm cp nx pc ls (.inl y :: .inl x :: st) σ :=
  fun h0 hE H locs lsA hR hL hs hS => lv_iushr hx hb hd rfl (k h0 hE H locs lsA hR hL (zst_cn trivial (zst_tl (zst_tl hs))) hS)
theorem zj_idiv (hx : p.tables.exec = Jvm.exec) (hb : c.code = cc) {x y : Int32} (hn : ¬ y = 0) (hd : decode cc pc = .ok (.idiv, 1)) (k : zJ G nL nx0 nxE p l e R s m args below meth c Qm cp nx (pc + 1) ls (.inl (x / y) :: st) σ) : zJ G nL nx0 nxE p l e R s m args below meth c Qm cp nx pc ls (.inl y :: .inl x :: st) σ :=
  fun h0 hE H locs lsA hR hL hs hS => lv_idiv hx hb hd hn (k h0 hE H locs lsA hR hL (zst_cn trivial (zst_tl (zst_tl hs))) hS)
theorem zj_irem (hx : p.tables.exec = Jvm.exec) (hb : c.code = cc) {x y : Int32} (hn : ¬ y = 0) (hd : decode cc pc = .ok (.irem, 1)) (k : zJ G nL nx0 nxE p l e R s m args below meth c Qm cp nx (pc + 1) ls (.inl (x - x / y * y) :: st) σ) : zJ G nL nx0 nxE p l e R s m args below meth c Qm cp nx pc ls (.inl y :: .inl x :: st) σ :=
  fun h0 hE H locs lsA hR hL hs hS => lv_irem hx hb hd hn (k h0 hE H locs lsA hR hL (zst_cn trivial (zst_tl (zst_tl hs))) hS)
theorem zj_ineg (hx : p.tables.exec = Jvm.exec) (hb : c.code = cc) {x : Int32} (hd : decode cc pc = .ok (.ineg, 1)) (k : zJ G nL nx0 nxE p l e R s m args below meth c Qm cp nx (pc + 1) ls (.inl (-x) :: st) σ) : zJ G nL nx0 nxE p l e R s m args below meth c Qm cp nx pc ls (.inl x :: st) σ :=
  fun h0 hE H locs lsA hR hL hs hS => lv_ineg hx hb hd (k h0 hE H locs lsA hR hL (zst_cn trivial (zst_tl hs)) hS)
theorem zj_i2b (hx : p.tables.exec = Jvm.exec) (hb : c.code = cc) {x : Int32} (hd : decode cc pc = .ok (.i2b, 1)) (k : zJ G nL nx0 nxE p l e R s m args below meth c Qm cp nx (pc + 1) ls (.inl (x.toInt8.toInt32) :: st) σ) : zJ G nL nx0 nxE p l e R s m args below meth c Qm cp nx pc ls (.inl x :: st) σ :=
  fun h0 hE H locs lsA hR hL hs hS => lv_i2b hx hb hd rfl (k h0 hE H locs lsA hR hL (zst_cn trivial (zst_tl hs)) hS)
theorem zj_i2c (hx : p.tables.exec = Jvm.exec) (hb : c.code = cc) {x : Int32} (hd : decode cc pc = .ok (.i2c, 1)) (k : zJ G nL nx0 nxE p l e R s m args below meth c Qm cp nx (pc + 1) ls (.inl ((x.toUInt32 % 65536).toInt32) :: st) σ) : zJ G nL nx0 nxE p l e R s m args below meth c Qm cp nx pc ls (.inl x :: st) σ :=
  fun h0 hE H locs lsA hR hL hs hS => lv_i2c hx hb hd rfl (k h0 hE H locs lsA hR hL (zst_cn trivial (zst_tl hs)) hS)
theorem zj_dup (hx : p.tables.exec = Jvm.exec) (hb : c.code = cc) {v : zV} (hd : decode cc pc = .ok (.dup, 1)) (k : zJ G nL nx0 nxE p l e R s m args below meth c Qm cp nx (pc + 1) ls (v :: v :: st) σ) : zJ G nL nx0 nxE p l e R s m args below meth c Qm cp nx pc ls (v :: st) σ :=
  fun h0 hE H locs lsA hR hL hs hS => lv_dup hx hb hd (zval_cat v) (k h0 hE H locs lsA hR hL (zst_cn (hs _ List.mem_cons_self) hs) hS)
theorem zj_dup2 (hx : p.tables.exec = Jvm.exec) (hb : c.code = cc) {v w : zV} (hd : decode cc pc = .ok (.dup2, 1)) (k : zJ G nL nx0 nxE p l e R s m args below meth c Qm cp nx (pc + 1) ls (v :: w :: v :: w :: st) σ) : zJ G nL nx0 nxE p l e R s m args below meth c Qm cp nx pc ls (v :: w :: st) σ :=
  fun h0 hE H locs lsA hR hL hs hS => lv_dup2_11 hx hb hd (zval_cat v) (zval_cat w) (k h0 hE H locs lsA hR hL (zst_cn (hs _ List.mem_cons_self) (zst_cn (hs _ (List.mem_cons_of_mem _ List.mem_cons_self)) hs)) hS)
theorem zj_pop (hx : p.tables.exec = Jvm.exec) (hb : c.code = cc) {v : zV} (hd : decode cc pc = .ok (.pop, 1)) (k : zJ G nL nx0 nxE p l e R s m args below meth c Qm cp nx (pc + 1) ls st σ) : zJ G nL nx0 nxE p l e R s m args below meth c Qm cp nx pc ls (v :: st) σ :=
  fun h0 hE H locs lsA hR hL hs hS => lv_pop hx hb hd (zval_cat v) (k h0 hE H locs lsA hR hL (zst_tl hs) hS)
theorem ztgt {b : Nat} : (pc : Int) + ((b : Int) - (pc : Int)) = (b : Int) := by omega
theorem zj_if_eq (hx : p.tables.exec = Jvm.exec) (hb : c.code = cc) {x : Int32} {b : Nat} (hd : decode cc pc = .ok (.ifCond .eq ((b : Int) - (pc : Int)), 3)) (kt : x = 0 → zJ G nL nx0 nxE p l e R s m args below meth c Qm cp nx b ls st σ) (kf : ¬ x = 0 → zJ G nL nx0 nxE p l e R s m args below meth c Qm cp nx (pc + 3) ls st σ) : zJ G nL nx0 nxE p l e R s m args below meth c Qm cp nx pc ls (.inl x :: st) σ :=
  fun h0 hE H locs lsA hR hL hs hS => lv_if_eq hx hb hd ztgt (fun q => kt q h0 hE H locs lsA hR hL (zst_tl hs) hS) (fun q => kf q h0 hE H locs lsA hR hL (zst_tl hs) hS)
theorem zj_if_ne (hx : p.tables.exec = Jvm.exec) (hb : c.code = cc) {x : Int32} {b : Nat} (hd : decode cc pc = .ok (.ifCond .ne ((b : Int) - (pc : Int)), 3)) (kt : ¬ x = 0 → zJ G nL nx0 nxE p l e R s m args below meth c Qm cp nx b ls st σ) (kf : x = 0 → zJ G nL nx0 nxE p l e R s m args below meth c Qm cp nx (pc + 3) ls st σ) : zJ G nL nx0 nxE p l e R s m args below meth c Qm cp nx pc ls (.inl x :: st) σ :=
  fun h0 hE H locs lsA hR hL hs hS => lv_if_ne hx hb hd ztgt (fun q => kt q h0 hE H locs lsA hR hL (zst_tl hs) hS) (fun q => kf q h0 hE H locs lsA hR hL (zst_tl hs) hS)
theorem zj_if_lt (hx : p.tables.exec = Jvm.exec) (hb : c.code = cc) {x : Int32} {b : Nat} (hd : decode cc pc = .ok (.ifCond .lt ((b : Int) - (pc : Int)), 3)) (kt : x < 0 → zJ G nL nx0 nxE p l e R s m args below meth c Qm cp nx b ls st σ) (kf : ¬ x < 0 → zJ G nL nx0 nxE p l e R s m args below meth c Qm cp nx (pc + 3) ls st σ) : zJ G nL nx0 nxE p l e R s m args below meth c Qm cp nx pc ls (.inl x :: st) σ :=
  fun h0 hE H locs lsA hR hL hs hS => lv_if_lt hx hb hd ztgt (fun q => kt q h0 hE H locs lsA hR hL (zst_tl hs) hS) (fun q => kf q h0 hE H locs lsA hR hL (zst_tl hs) hS)
theorem zj_if_ge (hx : p.tables.exec = Jvm.exec) (hb : c.code = cc) {x : Int32} {b : Nat} (hd : decode cc pc = .ok (.ifCond .ge ((b : Int) - (pc : Int)), 3)) (kt : 0 ≤ x → zJ G nL nx0 nxE p l e R s m args below meth c Qm cp nx b ls st σ) (kf : ¬ 0 ≤ x → zJ G nL nx0 nxE p l e R s m args below meth c Qm cp nx (pc + 3) ls st σ) : zJ G nL nx0 nxE p l e R s m args below meth c Qm cp nx pc ls (.inl x :: st) σ :=
  fun h0 hE H locs lsA hR hL hs hS => lv_if_ge hx hb hd ztgt (fun q => kt q h0 hE H locs lsA hR hL (zst_tl hs) hS) (fun q => kf q h0 hE H locs lsA hR hL (zst_tl hs) hS)
theorem zj_if_gt (hx : p.tables.exec = Jvm.exec) (hb : c.code = cc) {x : Int32} {b : Nat} (hd : decode cc pc = .ok (.ifCond .gt ((b : Int) - (pc : Int)), 3)) (kt : 0 < x → zJ G nL nx0 nxE p l e R s m args below meth c Qm cp nx b ls st σ) (kf : ¬ 0 < x → zJ G nL nx0 nxE p l e R s m args below meth c Qm cp nx (pc + 3) ls st σ) : zJ G nL nx0 nxE p l e R s m args below meth c Qm cp nx pc ls (.inl x :: st) σ :=
  fun h0 hE H locs lsA hR hL hs hS => lv_if_gt hx hb hd ztgt (fun q => kt q h0 hE H locs lsA hR hL (zst_tl hs) hS) (fun q => kf q h0 hE H locs lsA hR hL (zst_tl hs) hS)
theorem zj_if_le (hx : p.tables.exec = Jvm.exec) (hb : c.code = cc) {x : Int32} {b : Nat} (hd : decode cc pc = .ok (.ifCond .le ((b : Int) - (pc : Int)), 3)) (kt : x ≤ 0 → zJ G nL nx0 nxE p l e R s m args below meth c Qm cp nx b ls st σ) (kf : ¬ x ≤ 0 → zJ G nL nx0 nxE p l e R s m args below meth c Qm cp nx (pc + 3) ls st σ) : zJ G nL nx0 nxE p l e R s m args below meth c Qm cp nx pc ls (.inl x :: st) σ :=
  fun h0 hE H locs lsA hR hL hs hS => lv_if_le hx hb hd ztgt (fun q => kt q h0 hE H locs lsA hR hL (zst_tl hs) hS) (fun q => kf q h0 hE H locs lsA hR hL (zst_tl hs) hS)
theorem zj_icmp_eq (hx : p.tables.exec = Jvm.exec) (hb : c.code = cc) {x y : Int32} {b : Nat} (hd : decode cc pc = .ok (.if_icmp .eq ((b : Int) - (pc : Int)), 3)) (kt : x = y → zJ G nL nx0 nxE p l e R s m args below meth c Qm cp nx b ls st σ) (kf : ¬ x = y → zJ G nL nx0 nxE p l e R s m args below meth c Qm cp nx (pc + 3) ls st σ) : zJ G nL nx0 nxE p l e R s m args below meth c Qm cp nx pc ls (.inl y :: .inl x :: st) σ :=
  fun h0 hE H locs lsA hR hL hs hS => lv_icmp_eq hx hb hd ztgt (fun q => kt q h0 hE H locs lsA hR hL (zst_tl (zst_tl hs)) hS) (fun q => kf q h0 hE H locs lsA hR hL (zst_tl (zst_tl hs)) hS)
theorem zj_icmp_ne (hx : p.tables.exec = Jvm.exec) (hb : c.code = cc) {x y : Int32} {b : Nat} (hd : decode cc pc = .ok (.if_icmp .ne ((b : Int) - (pc : Int)), 3)) (kt : ¬ x = y → zJ G nL nx0 nxE p l e R s m args below meth c Qm cp nx b ls st σ) (kf : x = y → zJ G nL nx0 nxE p l e R s m args below meth c Qm cp nx (pc + 3) ls st σ) : zJ G nL nx0 nxE p l e R s m args below meth c Qm cp nx pc ls (.inl y :: .inl x :: st) σ :=
  fun h0 hE H locs lsA hR hL hs hS => lv_icmp_ne hx hb hd ztgt (fun q => kt q h0 hE H locs lsA hR hL (zst_tl (zst_tl hs)) hS) (fun q => kf q h0 hE H locs lsA hR hL (zst_tl (zst_tl hs)) hS)
theorem zj_icmp_lt (hx : p.tables.exec = Jvm.exec) (hb : c.code = cc) {x y : Int32} {b : Nat} (hd : decode cc pc = .ok (.if_icmp .lt ((b : Int) - (pc : Int)), 3)) (kt : x < y → zJ G nL nx0 nxE p l e R s m args below meth c Qm cp nx b ls st σ) (kf : ¬ x < y → zJ G nL nx0 nxE p l e R s m args below meth c Qm cp nx (pc + 3) ls st σ) : zJ G nL nx0 nxE p l e R s m args below meth c Qm cp nx pc ls (.inl y :: .inl x :: st) σ :=
  fun h0 hE H locs lsA hR hL hs hS => lv_icmp_lt hx hb hd ztgt (fun q => kt q h0 hE H locs lsA hR hL (zst_tl (zst_tl hs)) hS) (fun q => kf q h0 hE H locs lsA hR hL (zst_tl (zst_tl hs)) hS)
theorem zj_icmp_ge (hx : p.tables.exec = Jvm.exec) (hb : c.code = cc) {x y : Int32} {b : Nat} (hd : decode cc pc = .ok (.if_icmp .ge ((b : Int) - (pc : Int)), 3)) (kt : y ≤ x → zJ G nL nx0 nxE p l e R s m args below meth c Qm cp nx b ls st σ) (kf : ¬ y ≤ x → zJ G nL nx0 nxE p l e R s m args below meth c Qm cp nx (pc + 3) ls st σ) : zJ G nL nx0 nxE p l e R s m args below meth c Qm cp nx pc ls (.inl y :: .inl x :: st) σ :=
  fun h0 hE H locs lsA hR hL hs hS => lv_icmp_ge hx hb hd ztgt (fun q => kt q h0 hE H locs lsA hR hL (zst_tl (zst_tl hs)) hS) (fun q => kf q h0 hE H locs lsA hR hL (zst_tl (zst_tl hs)) hS)
theorem zj_icmp_gt (hx : p.tables.exec = Jvm.exec) (hb : c.code = cc) {x y : Int32} {b : Nat} (hd : decode cc pc = .ok (.if_icmp .gt ((b : Int) - (pc : Int)), 3)) (kt : y < x → zJ G nL nx0 nxE p l e R s m args below meth c Qm cp nx b ls st σ) (kf : ¬ y < x → zJ G nL nx0 nxE p l e R s m args below meth c Qm cp nx (pc + 3) ls st σ) : zJ G nL nx0 nxE p l e R s m args below meth c Qm cp nx pc ls (.inl y :: .inl x :: st) σ :=
  fun h0 hE H locs lsA hR hL hs hS => lv_icmp_gt hx hb hd ztgt (fun q => kt q h0 hE H locs lsA hR hL (zst_tl (zst_tl hs)) hS) (fun q => kf q h0 hE H locs lsA hR hL (zst_tl (zst_tl hs)) hS)
theorem zj_icmp_le (hx : p.tables.exec = Jvm.exec) (hb : c.code = cc) {x y : Int32} {b : Nat} (hd : decode cc pc = .ok (.if_icmp .le ((b : Int) - (pc : Int)), 3)) (kt : x ≤ y → zJ G nL nx0 nxE p l e R s m args below meth c Qm cp nx b ls st σ) (kf : ¬ x ≤ y → zJ G nL nx0 nxE p l e R s m args below meth c Qm cp nx (pc + 3) ls st σ) : zJ G nL nx0 nxE p l e R s m args below meth c Qm cp nx pc ls (.inl y :: .inl x :: st) σ :=
  fun h0 hE H locs lsA hR hL hs hS => lv_icmp_le hx hb hd ztgt (fun q => kt q h0 hE H locs lsA hR hL (zst_tl (zst_tl hs)) hS) (fun q => kf q h0 hE H locs lsA hR hL (zst_tl (zst_tl hs)) hS)
theorem zj_goto (hx : p.tables.exec = Jvm.exec) (hb : c.code = cc) {b : Nat} (hd : decode cc pc = .ok (.goto ((b : Int) - (pc : Int)), 3)) (k : zJ G nL nx0 nxE p l e R s m args below meth c Qm cp nx b ls st σ) : zJ G nL nx0 nxE p l e R s m args below meth c Qm cp nx pc ls st σ :=
  fun h0 hE H locs lsA hR hL hs hS => lv_goto hx hb hd ztgt (k h0 hE H locs lsA hR hL hs hS)
end ZJ1
