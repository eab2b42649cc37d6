/-! String.checkIndex, by hand: what it hands on may be null -/
theorem zix_0 : decode cJ3_checkIndex_8e157 0 = .ok (.iload_n 0, 1) := by decide +kernel
theorem zix_1 : decode cJ3_checkIndex_8e157 1 = .ok (.ifCond .lt 8, 3) := by decide +kernel
theorem zix_4 : decode cJ3_checkIndex_8e157 4 = .ok (.iload_n 0, 1) := by decide +kernel
theorem zix_5 : decode cJ3_checkIndex_8e157 5 = .ok (.iload_n 1, 1) := by decide +kernel
theorem zix_6 : decode cJ3_checkIndex_8e157 6 = .ok (.if_icmp .lt 10, 3) := by decide +kernel
theorem zix_16 : decode cJ3_checkIndex_8e157 16 = .ok (.iload_n 0, 1) := by decide +kernel
theorem zix_17 : decode cJ3_checkIndex_8e157 17 = .ok (.ireturn, 1) := by decide +kernel
set_option maxRecDepth 100000 in
theorem zix_met (l : Launch) (i n : Int32) (v : Value) (hv : v.category = 1) (h1 : ¬ i < 0) (h2 : i < n) : Met l (zmt 308).1 (zwd 308) (zrm 1 0 0) (va_Pc [.int i, .int n, v] (fun _ => True)) (fun _ st o t => o = .returned (some (.int i)) ∧ t.heap = st.heap) 0 0 (fun _ => False) := by
  refine Met.ofW (cc := (zmt 308).2.1) (maxL := (zmt 308).2.2.1) (ret := (zmt 308).2.2.2) (zm_all 308 (by decide)).2.2.2.2.2.2.2.2.2 rfl ?_
  intro p e s m args below meth c s₁ B hml hP
  obtain ⟨rfl, -⟩ := hP
  have hx := B.exec
  have hb : c.code = cJ3_checkIndex_8e157 := B.bytes
  have hr : meth.sig.returnType = some .int := B.returns
  have hlocks := B.notSynchronized
  have hsl : (lg_sl [.int i, .int n, v]).length ≤ 3 := by
    simp [lg_sl, hv, show (Value.int i).category = 1 from rfl, show (Value.int n).category = 1 from rfl]
  have hl := lv_entry [.int i, .int n, v] (n := 3) hsl
  have hml3 : (zmt 308).2.2.1 = 3 := rfl
  rw [lg_entry_eq, hml3]
  generalize (lg_sl [.int i, .int n, v] ++ List.replicate (3 - (lg_sl [.int i, .int n, v]).length) Slot.unset).toArray = ls at hl ⊢
  have l0 : ls[0]? = some (.val (.int i)) := hl.2.2 (0, .int i) (by simp [lv_args])
  have l1 : ls[1]? = some (.val (.int n)) := hl.2.2 (1, .int n) (by simp [lv_args, Value.category])
  refine lv_iload_n hx hb zix_0 rfl l0 ?_
  refine lv_if_lt (tgt := 9) hx hb zix_1 (by decide) (fun q => absurd q h1) (fun _ => ?_)
  refine lv_iload_n hx hb zix_4 rfl l0 ?_
  refine lv_iload_n hx hb zix_5 rfl l1 ?_
  refine lv_icmp_lt (tgt := 16) hx hb zix_6 (by decide) (fun _ => ?_) (fun q => absurd h2 q)
  refine lv_iload_n hx hb zix_16 rfl l0 ?_
  exact W.iret hx hb hr (fun t ht _ => ⟨rfl, ht⟩) (fun q hq => by cases hq) zix_17
theorem ziy_0 : decode cJ0_checkIndex_df160 0 = .ok (.iload_n 0, 1) := by decide +kernel
theorem ziy_1 : decode cJ0_checkIndex_df160 1 = .ok (.iload_n 1, 1) := by decide +kernel
theorem ziy_2 : decode cJ0_checkIndex_df160 2 = .ok (.getstatic 1053, 3) := by decide +kernel
theorem ziy_5 : decode cJ0_checkIndex_df160 5 = .ok (.invokestatic 1059, 3) := by decide +kernel
theorem ziy_8 : decode cJ0_checkIndex_df160 8 = .ok (.pop, 1) := by decide +kernel
theorem ziy_9 : decode cJ0_checkIndex_df160 9 = .ok (.return_, 1) := by decide +kernel
theorem ziy_f : Cond.fieldLink RJ0 1053 "jdk/internal/util/Preconditions" "SIOOBE_FORMATTER" "Ljava/util/function/BiFunction;" ∈ ztb := ztb_in (i := 731) (by decide +kernel) rfl
theorem ziy_m : Cond.methodLink RJ0 1059 (zmt 308).1 ∈ ztb := ztb_in (i := 733) (by decide +kernel) rfl
def p_J0_checkIndex_df160 (x1 x2 : Int32) (_ : zS) : Prop := ¬ x1 < 0 ∧ x1 < x2
set_option maxRecDepth 100000 in
theorem c_J0_checkIndex_df160 {cp : Nat → Bool} {nx : Nat} (x1 x2 : Int32) (σ : zS) (hp : p_J0_checkIndex_df160 x1 x2 σ) : zCl 3 cp nx cp nx 307 [.inl x1, .inl x2] σ (fun v σ1 => v = none ∧ σ1 = σ) := by
  refine ⟨2, by decide, Nat.le_refl _, Nat.le_refl _, fun l G => ?_⟩
  refine Met.ofW (cc := (zmt 307).2.1) (maxL := (zmt 307).2.2.1) (ret := (zmt 307).2.2.2) (zm_all 307 (by decide)).2.2.2.2.2.2.2.2.2 rfl ?_
  intro p e s m args below meth c s₁ B hml hv
  obtain ⟨rfl, hRep, hK, -⟩ := hv
  have hx := B.exec
  have hb : c.code = cJ0_checkIndex_df160 := B.bytes
  have hr : meth.sig.returnType = none := B.returns
  have hlocks := B.notSynchronized
  have hts := atoms_spec (ws := zwd 307) B.pre
  have hts : ∀ w ∈ ztb, w.before #[Value.int x1, Value.int x2] s = true := fun w hw => hts w (List.mem_cons_of_mem _ hw)
  have hown : s.vm.findClass RJ0 = some m.cls := findClass_of_methodNamed B.named
  have hl := lv_entry [.int x1, .int x2] (n := 2) (Nat.le_of_ble_eq_true rfl)
  rw [show ([(.inl x1 : zV), .inl x2].map (zval G)).toArray = ([Value.int x1, Value.int x2] : List Value).toArray from rfl, lg_entry_eq, show (zmt 307).2.2.1 = 2 from rfl]
  generalize (lg_sl [.int x1, .int x2] ++ List.replicate (2 - (lg_sl [.int x1, .int x2]).length) Slot.unset).toArray = ls at hl ⊢
  have l0 : ls[0]? = some (.val (.int x1)) := hl.2.2 (0, .int x1) (by simp [lv_args])
  have l1 : ls[1]? = some (.val (.int x2)) := hl.2.2 (1, .int x2) (by simp [lv_args, Value.category])
  have hS : va_S (zA G) s.heap s.heap [] := va_S.rf
  have go : ∀ v : Value, v.category = 1 → va_Z "jdk/internal/util/Preconditions" "SIOOBE_FORMATTER" "Ljava/util/function/BiFunction;" v (zA G) s s.heap → W p l e (headSpec (zwd 307) (zrm 2 nx nx)).room s m (([(.inl x1 : zV), .inl x2].map (zval G)).toArray) below meth c s.heap [] 0 0 (MQ below (zPost G cp nx fun v σ1 => v = none ∧ σ1 = σ) (([(.inl x1 : zV), .inl x2].map (zval G)).toArray) s (nx - nx) (zsl nx - zsl nx) (zA G)) (F0 m 0 ls []) := by
    intro v hv hZ
    refine lv_iload_n hx hb ziy_0 rfl l0 ?_
    refine lv_iload_n hx hb ziy_1 rfl l1 ?_
    refine va_gets hx hb hZ hS hown (hts _ ziy_f) (fun _ h => h) ziy_2 ?_
    have hB : CallB (headSpec (zwd 307) (zrm 2 nx nx)).room s #[Value.int x1, Value.int x2] RJ0 1059 (zmt 308).1 (zmt 308).2.1 (zmt 308).2.2.1 (zmt 308).2.2.2 (zwd 308) (zrm 1 0 0) 0 0 3 := by
      obtain ⟨i1, -, -, -, -, i6, i7, i8, -⟩ := zm_all 308 (by decide)
      exact callB_of 3 hts (zgood 308 (by decide)) rfl rfl rfl (hts _ i1) (hts _ ziy_m) ⟨i6, i7, i8⟩ ⟨Nat.le_of_ble_eq_true rfl, Nat.le_of_ble_eq_true rfl⟩
    have hrun := va_runS (H := s.heap) (locs := []) (cells := 0) (slots := 0) (p := p) (e := e) (below := below) (meth := meth) (c := c) (m := m) (As := [.int x1, .int x2, v]) (rest := []) (g := F0 m 5 ls [v, .int x2, .int x1]) (nL := 2) (cc := cJ0_checkIndex_df160) (Ts := ztb) ⟨hx, hb, hml, hown, hts⟩ (zix_met l x1 x2 v hv hp.1 hp.2) ⟨hB, hts _ ((zm_all 308 (by decide)).2.1 rfl)⟩ ⟨fun a U g mk h => h, fun U hU hW => ⟨rfl, trivial⟩⟩ rfl rfl hl.1 rfl (Nat.zero_le 8) ziy_5 ⟨Nat.zero_le _, Nat.zero_le _⟩
    intro T hT X
    obtain ⟨w, st₀, t, T', L, e0, X', hLL, e1, e2, ⟨q1, q2⟩, stp⟩ := hrun T hT X
    have hw : w = some (.int x1) := Outcome.returned.inj q1
    subst hw
    have hH : T'.heap = s.heap := by rw [e1, q2, e0]
    have hL : L = [] := by
      cases L with
      | nil => rfl
      | cons a b => exact (hLL a List.mem_cons_self).elim
    subst hL
    have fin : W p l e (headSpec (zwd 307) (zrm 2 nx nx)).room s m (([(.inl x1 : zV), .inl x2].map (zval G)).toArray) below meth c s.heap [] 0 0 (MQ below (zPost G cp nx fun v σ1 => v = none ∧ σ1 = σ) (([(.inl x1 : zV), .inl x2].map (zval G)).toArray) s (nx - nx) (zsl nx - zsl nx) (zA G)) (F0 m 8 ls [.int x1]) := by
      refine lv_pop hx hb ziy_8 rfl ?_
      rw [Nat.sub_self, Nat.sub_self]
      exact W.vret hx hb hr (fun t ht _ => ⟨⟨none, σ, rfl, ⟨rfl, rfl⟩, (fun q h => by cases h), by rw [ht]; exact hRep⟩, hS.F ht⟩) (fun q hq => by cases hq) ziy_9
    obtain ⟨t2, a1, b1⟩ := fin T' hH X'
    exact ⟨t2, stp t2 a1, b1⟩
  rcases hK.2.2.2.2.2.2.2.2.2.2 with hZ | ⟨q, hZ⟩
  · exact go _ rfl hZ
  · exact go _ rfl hZ
