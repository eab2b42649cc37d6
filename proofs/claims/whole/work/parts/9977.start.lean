/-! the machine at the law's entry, in the pure machine's terms -/
section IS
variable {N L : Nat} {σ : zS}
set_option maxRecDepth 100000 in
set_option maxHeartbeats 2000000 in
theorem lw_wp0 (hL : L ≤ 3584) (hN : 200000 < N) (ht : TRD σ) : zWp 200 zall 501 309 lwQ zno 0 0 [some (.inr (26, L, 1000003)), none, none, none] [] σ := by
  obtain ⟨f1, f2, f3⟩ := fs_inv hN ht
  refine zvc_sound (cd := kL_law) (cs := [8]) rfl okL_law 1000 _ _ 0 kL_law _ _ _ (fun _ h => h) ?_
  refine And.intro rfl (And.intro rfl (And.intro (by omega) ?_))
  refine ⟨zall, 468, by omega, zsl_mono (by omega), zCl.use (n_X8 N σ f1) (Nat.le_of_ble_eq_true rfl) ?_⟩
  rintro _ σz ⟨rfl, hz⟩
  subst σz
  refine zWp.complete (cp1 := zlow) (fun a ha => Or.inl ?_) ?_
  · show Nat.blt a 468 = true
    exact Nat.ble_eq_true_of_le ha
  refine zvc_sound (cd := kL_law) (cs := [18]) rfl okL_law 1000 _ _ 8 (zseek kL_law 8) _ _ _ zseek_sub ?_
  refine And.intro rfl (And.intro rfl (And.intro (by omega) ?_))
  refine ⟨zall, 501, by omega, zsl_mono (by omega), zCl.use (n_X9 N (fsC N σ) f2) (Nat.le_of_ble_eq_true rfl) ?_⟩
  rintro _ σz ⟨rfl, hz⟩
  subst σz
  exact lw_loop (N := N) hL hN 513 0 _ (by omega) f3
end IS
def R_law : String := "WindowRingLaw"
def lw_P (b : Addr) (xs : List Int32) (args : Array Value) (s : State) : Prop := args = #[.ref b] ∧ s.IntsAt b xs ∧ xs.length ≤ 3584 ∧ (Jvm.Cond.and given_1 narrow_1).before args s = true
def lw_Q (_ : Array Value) (s : State) (o : Outcome) (t : State) : Prop := o = .returned (some (.int 1)) ∧ Framed s o t [] 600000 7302250
def lw_Z (below : List Frame) (a : Array Value) (s : State) : State → Prop := fun t => ∃ o, t.status = .running ∧ Ended t below o ∧ lw_Q a s o t
/-- the law's own end, with 1 on the stack, nothing written that was there before, its room as the claim has it -/
theorem lw_ret {p : Program} {l : Launch} {e : Env} {s : State} {m : MethodId} {below : List Frame} {meth : Method} {c : Code} {b : Nat} (hx : p.tables.exec = Jvm.exec) (hb : c.code = code) (hr : meth.sig.returnType = ret) (hlocks : meth.locks = false) {pc : Nat} {H : Heap} {ls : Array Slot} (hdg : decode code pc = .ok (.ireturn, 1)) : W p l e room_1 s m #[Value.ref b] below meth c H [] 600000 7302250 (lw_Z below #[Value.ref b] s) (F0 m pc ls [.int 1]) := by
  intro T hT X
  obtain ⟨fs, hret, hrun, hended, hW, hframe⟩ := X.leave (v := some (.int 1)) (hlocks := hlocks) (fun h => by rw [hr] at h; cases h)
  have hmeth' : T.vm.method? m = some meth := X.method'
  refine ⟨T.setFrames fs, ?_, .returned (some (.int 1)), hrun, hended, rfl, ⟨_, rfl⟩, hW, hframe⟩
  jvm_step X.here [X.here.top, hx, hb, hdg, hmeth', hr, ret, narrow_b1]
  (try refine ⟨rfl, ?_⟩); (try refine ⟨rfl, ?_⟩)
  first | (intro acts; rw [hret _ acts rfl rfl rfl]) | rw [hret _ _ rfl rfl rfl]
  exact Steps.refl _
/-- what holds at the law's entry -/
def lw_At (p : Program) (s : State) (m : MethodId) (meth : Method) (c : Code) (b L : Nat) (xs : Nat → Int32) : Prop :=
  p.tables.exec = Jvm.exec ∧ c.code = code ∧ meth.sig.returnType = ret ∧ c.maxLocals = 4 ∧ s.vm.findClass R_law = some m.cls ∧ (∀ w ∈ lw_tbl, w.before #[Value.ref b] s = true) ∧ va_X b L xs s s.heap ∧ b < s.heap.size ∧ meth.locks = false ∧ (Jvm.Cond.and given_1 narrow_1).before #[Value.ref b] s = true ∧ meth.name = "law"
def zv0 (xs : Nat → Int32) (i j : Nat) : Int32 := match i with | 0 => 0 | 1 => f_X9_triedWay (nI j) | 2 => f_X9_triedN (nI j) | _ => xs j
def zl0 (L i : Nat) : Nat := match i with | 0 => 0 | 1 => 5 | 2 => 5 | _ => L
def zs0 (xs : Nat → Int32) : zS := (fun q j => if 1000000 ≤ q then zv0 xs (q - 1000000) j else 0, fun _ _ => 0)
def za0 (a0 a1 a2 b : Nat) (aK aV : Nat → Nat) (n : Nat) : Nat := if n < 10 then (match n with | 0 => a0 | 1 => a1 | 2 => a2 | _ => b) else if n < 40 then aK (n - 10) else aV (n - 40)
theorem za0K {a0 a1 a2 b : Nat} {aK aV : Nat → Nat} {i : Nat} (hi : i < 14) : za0 a0 a1 a2 b aK aV (10 + i) = aK i := by
  unfold za0
  rw [if_neg (by omega), if_pos (by omega), Nat.add_sub_cancel_left]
theorem za0V {a0 a1 a2 b : Nat} {aK aV : Nat → Nat} {i : Nat} (hi : i < 14) : za0 a0 a1 a2 b aK aV (40 + i) = aV i := by
  unfold za0
  rw [if_neg (by omega), if_neg (by omega), Nat.add_sub_cancel_left]
theorem zTRD {xs : Nat → Int32} : TRD (zs0 xs) := fun i _ => by
  refine ⟨?_, ?_⟩
  · show (if 1000000 ≤ 1000001 then zv0 xs (1000001 - 1000000) i else 0) = _
    rw [if_pos (by decide), show 1000001 - 1000000 = 1 from rfl]
    rfl
  · show (if 1000000 ≤ 1000002 then zv0 xs (1000002 - 1000000) i else 0) = _
    rw [if_pos (by decide), show 1000002 - 1000000 = 2 from rfl]
    rfl
/-- the classes of arrays -/
theorem ar_prim {s : State} {args : Array Value} (h : ∀ w ∈ ztb, w.before args s = true) : (∃ cA, ArrOfT s cA .int ∧ va_RA s cA .int) ∧ (∃ cA, ArrOfT s cA .byte ∧ va_RA s cA .byte) ∧ ∃ cA, ArrOfT s cA .boolean ∧ va_RA s cA .boolean := by
  refine ⟨?_, ?_, ?_⟩
  · obtain ⟨cA, kA, comp, h1, h2, h3⟩ := Cond.arrayClass_spec (h (.arrayClass .int) (zjw_in _ (List.mem_of_getElem? (i := 10) rfl)))
    exact ⟨cA, fun n z => ⟨fun k h => (by cases h), kA, h2, comp, h3⟩, h1⟩
  · obtain ⟨cA, kA, comp, h1, h2, h3⟩ := Cond.arrayClass_spec (h (.arrayClass .byte) (zjw_in _ (List.mem_of_getElem? (i := 11) rfl)))
    exact ⟨cA, fun n z => ⟨fun k h => (by cases h), kA, h2, comp, h3⟩, h1⟩
  · obtain ⟨cA, kA, comp, h1, h2, h3⟩ := Cond.arrayClass_spec (h (.arrayClass .boolean) (zjw_in _ (List.mem_of_getElem? (i := 12) rfl)))
    exact ⟨cA, fun n z => ⟨fun k h => (by cases h), kA, h2, comp, h3⟩, h1⟩
theorem ar_obj {s : State} {C : String} (h : va_AO C s) : ∃ cA, ArrOfT s cA (.object C) ∧ va_RA s cA (.object C) := by
  obtain ⟨comp, c, k, h1, h2, h3, h4, h5⟩ := Cond.arrayOver_spec h
  exact ⟨c, fun n z => ⟨fun k h => (by cases h), k, h3, comp, h4⟩, k, comp, h3, h4, h1, h5⟩
/-- all that the pure machine takes as given -/
theorem zK0 {s : State} {b L : Nat} {xs : Nat → Int32} (hts : ∀ w ∈ lw_tbl, w.before #[Value.ref b] s = true) (hX : va_X b L xs s s.heap) (hbl : b < s.heap.size) (hgv : (Jvm.Cond.and given_1 narrow_1).before #[Value.ref b] s = true) : ∃ G : zG, zK G s ∧ G.2.2.1 = s.heap.size ∧ G.2.2.2.1 3 = b ∧ G.2.2.2.2.1 = zl0 L ∧ G.2.2.2.2.2 = zv0 xs := by
  have hs := flat_of_before _ hgv
  have hzt : ∀ w ∈ ztb, w.before #[Value.ref b] s = true := fun w hw => hts w (List.mem_filter.mp hw).1
  have hA : ∀ a : Nat, a < s.heap.size → ¬ (fun q : Nat => s.heap.size ≤ q) a := fun a h => Nat.not_le.mpr h
  -- classes
  have hcl : ∀ c : Nat, ∃ d : ClassId × (Nat → Nat), ∀ q : vw_C, zcl[c]? = some q → u_Kn s q.1 q.2.1 q.2.2 d.1 d.2 := fun c => by
    cases hq : zcl[c]? with
    | none => exact ⟨(0, fun _ => 0), fun q h => by cases h⟩
    | some q =>
      obtain ⟨cC, iS, h⟩ := u_known (ws := ztb) (n := q.2.2) hzt (zu_in c q hq) (hzt _ (zo_inst c q hq).1)
      exact ⟨(cC, iS), fun q' h' => by cases h'; exact h⟩
  obtain ⟨fd, hfd⟩ := Classical.axiomOfChoice hcl
  -- arrays
  obtain ⟨⟨c0, k0⟩, ⟨c1, k1⟩, ⟨c2, k2⟩⟩ := ar_prim hzt
  have o4 : va_AO RX4 s := va_AO.of (hts _ tb_arr.1)
  have o5 : va_AO RX5 s := va_AO.of (hts _ tb_arr.2.1)
  have o7 : va_AO RX7 s := va_AO.of (hts _ tb_arr.2.2.1)
  obtain ⟨c3, k3⟩ := ar_obj o4
  obtain ⟨c4, k4⟩ := ar_obj o5
  obtain ⟨c5, k5⟩ := ar_obj o7
  -- the statics
  obtain ⟨a0, e0, T0⟩ := va_Tof (tm := .static "WindowRing" "NOTHING" "[I") (ty := .int) (N := 0) (f := fun j => .int (zv0 xs 0 j)) (A := fun q : Nat => s.heap.size ≤ q) (by decide) (hs _ (nw_arr 0 (by decide)).1) (va_eqt (hs _ (nw_arr 0 (by decide)).2)) (fun j hj => absurd hj (by omega)) hA
  obtain ⟨a1, e1, T1⟩ := va_Tof (tm := .static "WindowRing" "TRIED_WAYS" "[I") (ty := .int) (N := 5) (f := fun j => .int (zv0 xs 1 j)) (A := fun q : Nat => s.heap.size ≤ q) (by decide) (hs _ (nw_arr 1 (by decide)).1) (va_eqt (hs _ (nw_arr 1 (by decide)).2)) (fun j hj => va_eqt (hs _ (nw_way j hj))) hA
  obtain ⟨a2, e2, T2⟩ := va_Tof (tm := .static "WindowRing" "TRIED_NUMBERS" "[I") (ty := .int) (N := 5) (f := fun j => .int (zv0 xs 2 j)) (A := fun q : Nat => s.heap.size ≤ q) (by decide) (hs _ (nw_arr 2 (by decide)).1) (va_eqt (hs _ (nw_arr 2 (by decide)).2)) (fun j hj => va_eqt (hs _ (nw_num j hj))) hA
  have T3 : va_T .int b L (fun j => .int (zv0 xs 3 j)) (fun q : Nat => s.heap.size ≤ q) s s.heap := by
    obtain ⟨scr, h1, h2, h3, h4, h5⟩ := hX
    exact ⟨scr, h1, h2, h3, by omega, by rw [h4], h5, hA b hbl⟩
  -- the strings
  obtain ⟨aK, aV, hS, hE⟩ := vk_Sof (N := 14) (tm := zst) (len := zslenL) (byt := zsbytL) (A := fun q : Nat => s.heap.size ≤ q) (args := #[Value.ref b]) (s := s) (by decide) (fun i hi => hs _ (nw_str i hi).1) (fun i hi => hs _ (nw_str i hi).2.1) (fun i hi => hs _ (nw_str i hi).2.2.1) (fun i hi => hs _ (nw_str i hi).2.2.2) (fun i hi j hj => hs _ (nw_byt i hi j hj)) (fun i j hi hj hij => by
    rcases Nat.lt_or_gt_of_ne hij with h | h
    · exact Or.inl (hs _ (nw_ne j hj i h))
    · exact Or.inr (hs _ (nw_ne i hi j h))) hA
  refine ⟨((fun c => (fd c).1, fun c => (fd c).2), fun k => (match k with | 0 => c0 | 1 => c1 | 2 => c2 | 3 => c3 | 4 => c4 | _ => c5), s.heap.size, za0 a0 a1 a2 b aK aV, zl0 L, zv0 xs), ⟨⟨fun c q h => hfd c q h, fun k q h => ?_⟩, fun q hq => ?_, va_Nw.of rfl (hts _ tb_arr.2.2.2), fun i hi => ?_, fun i hi => ?_, fun i hi => ?_, ⟨o4, o5, o7⟩, fun i hi => ?_, ⟨fun i hi => ?_, fun i j hi hj => ?_⟩, ?_, ?_⟩, rfl, rfl, rfl, rfl⟩
  · match k, h with
    | 0, h => cases h; exact k0
    | 1, h => cases h; exact k1
    | 2, h => cases h; exact k2
    | 3, h => cases h; exact k3
    | 4, h => cases h; exact k4
    | 5, h => cases h; exact k5
    | k + 6, h => cases h
  · have hk := List.all_eq_true.mp znl_ck q hq
    rw [Bool.and_eq_true, decide_eq_true_eq] at hk
    exact va_Nw.of rfl (hts _ (List.mem_of_getElem? hk.1))
  · match i, hi with
    | 0, _ => exact T0
    | 1, _ => exact T1
    | 2, _ => exact T2
    | 3, _ => exact T3
    | i + 4, h => exact absurd h (by omega)
  · match i, hi with
    | 0, _ => exact va_Zref (hts _ (tb_sta.1 0 (by decide))) (hts _ tb_ini.1) e0 hA
    | 1, _ => exact va_Zref (hts _ (tb_sta.1 1 (by decide))) (hts _ tb_ini.1) e1 hA
    | 2, _ => exact va_Zref (hts _ (tb_sta.1 2 (by decide))) (hts _ tb_ini.1) e2 hA
    | i + 3, h => exact absurd h (by omega)
  · match i, hi with
    | 0, _ => rfl
    | 1, _ => rfl
    | 2, _ => rfl
    | i + 3, h => exact absurd h (by omega)
  · show vk_R RX6 (zsiL.getD i 0) (ztxL.getD i "") (za0 a0 a1 a2 b aK aV (10 + i)) s
    rw [za0K hi]
    exact vk_R.of (hts _ (tb_str i hi)) (hE i hi)
  · show va_O "java/lang/String" (za0 a0 a1 a2 b aK aV (10 + i)) _ s s.heap ∧ va_OF "java/lang/String" "coder" "B" (.int 0) (za0 a0 a1 a2 b aK aV (10 + i)) _ s s.heap ∧ va_OF "java/lang/String" "value" "[B" (.ref (za0 a0 a1 a2 b aK aV (40 + i))) (za0 a0 a1 a2 b aK aV (10 + i)) _ s s.heap ∧ va_T .byte (za0 a0 a1 a2 b aK aV (40 + i)) _ _ _ s s.heap
    rw [za0K hi, za0V hi]
    exact hS.1 i hi
  · show za0 a0 a1 a2 b aK aV (10 + i) = za0 a0 a1 a2 b aK aV (10 + j) → i = j
    rw [za0K hi, za0K hj]
    exact hS.2 i j hi hj
  · exact va_Zof (hts _ tb_sta.2.1) (hts _ tb_ini.2.1) (va_eqt (hs _ nw_two.1)) hA
  · exact va_Zqof (hts _ tb_sta.2.2) (hts _ tb_ini.2.2) (hs _ nw_two.2) hA
theorem zsl_501 : zsl 501 - zsl 0 ≤ 7302250 := by decide +kernel
/-- from the entry, for every script of at most 3584 ints, the law comes to its end with true -/
theorem whole_start {p : Program} {e : Env} {s : State} {m : MethodId} {below : List Frame} {meth : Method} {c : Code} (l : Launch) {b L : Nat} {xs : Nat → Int32} (hL : L ≤ 3584) (C0 : lw_At p s m meth c b L xs) : W p l e room_1 s m #[Value.ref b] below meth c s.heap [] 0 0 (lw_Z below #[Value.ref b] s) (entryFrame m ([Value.ref b] : List Value).toArray 4) := by
  obtain ⟨hx, hb, hr, hml, hown, hts, hX, hbl, hlocks, hgv, hnm⟩ := C0
  obtain ⟨⟨g1, g2, g3, g4, g5, g6⟩, hK, q1, q2, q3, q4⟩ := zK0 hts hX hbl hgv
  have q1 : g3 = s.heap.size := q1
  have q2 : g4 3 = b := q2
  have q3 : g5 = zl0 L := q3
  have q4 : g6 = zv0 xs := q4
  subst q1 q3 q4
  have hC : zCx (g1, g2, s.heap.size, g4, zl0 L, zv0 xs) 200 309 0 501 p room_1 s m #[Value.ref b] meth c := ⟨hx, hb, hml, hown, fun w hw => hts w (List.mem_filter.mp hw).1, hK, rfl, by decide, by decide, by decide, zsl_501, hnm, hr⟩
  have hR : zRep (g1, g2, s.heap.size, g4, zl0 L, zv0 xs) zno 0 (zs0 xs) s.heap := by
    refine ⟨rfl, by omega, fun k q h => ?_, fun a k b ha => absurd ha (by omega), fun a k ha => absurd ha (by omega), fun i hi j hj => ?_⟩
    · cases h
    · show (if 1000000 ≤ 1000000 + i then zv0 xs (1000000 + i - 1000000) j else 0) = zv0 xs i j
      rw [if_pos (by omega), Nat.add_sub_cancel_left]
  have hl := lv_entry ([Value.ref b]) (n := 4) (Nat.le_of_ble_eq_true rfl)
  rw [lg_entry_eq]
  generalize (lg_sl [Value.ref b] ++ List.replicate (4 - (lg_sl [Value.ref b]).length) Slot.unset).toArray = lsA at hl ⊢
  have hv3 : zval (g1, g2, s.heap.size, g4, zl0 L, zv0 xs) (.inr (26, L, 1000003)) = Value.ref b := by
    show Value.ref (zrho (g1, g2, s.heap.size, g4, zl0 L, zv0 xs) 1000003) = Value.ref b
    unfold zrho
    rw [if_neg (by decide), show 1000003 - 1000000 = 3 from rfl]
    exact congrArg Value.ref q2
  have hLc : zLc (g1, g2, s.heap.size, g4, zl0 L, zv0 xs) 0 4 [some (.inr (26, L, 1000003)), none, none, none] lsA := by
    refine ⟨rfl, hl.1, hl.2.1, fun i v hi => ?_⟩
    match i, hi with
    | 0, hi =>
      cases hi
      rw [hv3]
      exact ⟨hl.2.2 (0, Value.ref b) List.mem_cons_self, Or.inr (Or.inl ⟨3, by omega, rfl, rfl, rfl⟩)⟩
    | 1, hi => cases hi
    | 2, hi => cases hi
    | 3, hi => cases hi
    | i + 4, hi => cases hi
  have hJ := lw_wp0 (N := 300000) hL (by omega) (zTRD (xs := xs)) _ 0 p l e room_1 s m #[Value.ref b] below meth c (lw_Z below #[Value.ref b] s) hC (fun v σ1 pc1 ls1 hq hr1 => ?_)
  · exact hJ (Nat.le_refl _) (by omega) s.heap [] lsA hR hLc (fun v hv => by cases hv) va_S.rf
  · have hq : v = some (.inl 1) := hq
    subst hq
    intro h0 hE H locs lsA1 hR1 hL1 hs1 hS1
    refine va_forget (fun q hq => hS1.2.2 q hq) ?_
    refine W.widen (k := 600000) (n := 7302250) (by omega) zsl_501 ?_
    exact lw_ret hx hb hr hlocks hr1.1
