/-! the pure machine's word holds of the machine -/
theorem zblt {a b : Nat} (h : Nat.blt a b = true) : a < b := by simpa [Nat.blt_eq] using h
theorem zble {a b : Nat} (h : Nat.ble a b = true) : a ≤ b := Nat.le_of_ble_eq_true h
theorem zcond {b : Bool} {P : Prop} (h : bif b then P else False) : b = true ∧ P := by
  cases b
  · exact h.elim
  · exact ⟨rfl, h⟩
theorem zhd_of {av : List zV} {t : Nat} (h : zhd av t = true) : ∃ n o as, av = .inr (t, n, o) :: as := by
  unfold zhd at h
  split at h
  · rename_i u n o as
    have := zbeq h
    subst this
    exact ⟨n, o, as, rfl⟩
  · cases h
def zrt (y : Nat) (v : Option zV) (pc : Nat) : Prop := match v with
  | none => decode (zmt y).2.1 pc = .ok (.return_, 1) ∧ (zmt y).2.2.2 = none
  | some (.inl x) => decode (zmt y).2.1 pc = .ok (.ireturn, 1) ∧ ((zmt y).2.2.2 = some .int ∨ ((zmt y).2.2.2 = some .boolean ∧ (x = 0 ∨ x = 1)) ∨ ((zmt y).2.2.2 = some .char ∧ (x.toUInt32 % 65536).toInt32 = x) ∨ ((zmt y).2.2.2 = some .byte ∧ x.toInt8.toInt32 = x))
  | some (.inr _) => decode (zmt y).2.1 pc = .ok (.areturn, 1) ∧ ∃ n, (zmt y).2.2.2 = some (.object n)
section ZM
variable {G : zG} {d y nx0 nxE : Nat} {p : Program} {l : Launch} {e : Env} {R : Room} {s : State} {m : MethodId} {args : Array Value} {below : List Frame} {meth : Method} {c : Code} {Qm : State → Prop} {cp cpE : Nat → Bool} {nx pc : Nat} {ls : List (Option zV)} {st : List zV} {σ : zS} {Q : zQ} {F : zF} {cd r : List (Nat × zIn)}
theorem zst_c_of {a b idx len : Nat} {rcv : Bool} (hC : zCx G d y nx0 nxE p R s m args meth c)
    (hF : ∀ cp nx pc ls st σ, F cp nx pc r ls st σ → zJ G (zmt y).2.2.1 nx0 nxE p l e R s m args below meth c Qm cp nx pc ls st σ) (hlen : len = 3)
    (hcall : ∀ (d1 : Nat) (av rest : List zV) (Q1 : zQ), d = d1 + 1 → av.length = b → st = av.reverse ++ rest → rest.length ≤ 8 → (rcv = true → zhd av (zmo a) = true) → zCl d1 cp nx cp nx a av σ Q1 → (∀ v σ1, Q1 v σ1 → zJ G (zmt y).2.2.1 nx0 nxE p l e R s m args below meth c Qm cp nx (pc + 3) ls (v.toList ++ rest) σ1) → zJ G (zmt y).2.2.1 nx0 nxE p l e R s m args below meth c Qm cp nx pc ls st σ)
    (h : zst_c F d cp nx pc r ls st σ len a b rcv) : zJ G (zmt y).2.2.1 nx0 nxE p l e R s m args below meth c Qm cp nx pc ls st σ := by
  obtain ⟨av, rest, hk, hst, hav⟩ := zpop_elim h
  obtain ⟨hb, hk⟩ := zcond hk
  simp only [Bool.and_eq_true, Bool.or_eq_true, Bool.not_eq_true'] at hb
  subst hlen
  cases d with
  | zero => exact hk.elim
  | succ d1 => exact hcall d1 av rest _ rfl hav hst (zble hb.1) (fun hr => hb.2.resolve_left (by rw [hr]; decide)) hk (fun v σ1 hq => hF _ _ _ _ _ _ hq)
theorem zst_s_of {a b len : Nat}
    (hF : ∀ cp nx pc ls st σ, F cp nx pc r ls st σ → zJ G (zmt y).2.2.1 nx0 nxE p l e R s m args below meth c Qm cp nx pc ls st σ) (hlen : len = 3)
    (hcall : ∀ (d1 n o : Nat) (as rest : List zV) (Q1 : zQ), d = d1 + 1 → as.length + 1 = b → st = ((.inr (30, n, o) : zV) :: as).reverse ++ rest → rest.length ≤ 8 → zCl d1 cp nx cp nx a (.inr (30, n, o) :: as) σ Q1 → (∀ v σ1, Q1 v σ1 → zJ G (zmt y).2.2.1 nx0 nxE p l e R s m args below meth c Qm cp nx (pc + 3) ls (v.toList ++ rest) σ1) → zJ G (zmt y).2.2.1 nx0 nxE p l e R s m args below meth c Qm cp nx pc ls st σ)
    (h : zst_s F d cp nx pc r ls st σ len a b) : zJ G (zmt y).2.2.1 nx0 nxE p l e R s m args below meth c Qm cp nx pc ls st σ := by
  obtain ⟨av, rest, hk, hst, hav⟩ := zpop_elim h
  obtain ⟨hb, hk⟩ := zcond hk
  simp only [Bool.and_eq_true] at hb
  subst hlen
  obtain ⟨n, o, as, rfl⟩ := zhd_of hb.2
  cases d with
  | zero => exact hk.elim
  | succ d1 => exact hcall d1 n o as rest _ rfl hav hst (zble hb.1) hk (fun v σ1 hq => hF _ _ _ _ _ _ hq)
theorem zst_i_of {a b idx len : Nat} (hC : zCx G d y nx0 nxE p R s m args meth c)
    (hF : ∀ cp nx pc ls st σ, F cp nx pc r ls st σ → zJ G (zmt y).2.2.1 nx0 nxE p l e R s m args below meth c Qm cp nx pc ls st σ) (hlen : len = 3)
    (hcall : ∀ (d1 t n o nx1 : Nat) (cp1 : Nat → Bool) (av rest : List zV) (Q1 : zQ), d = d1 + 1 → av.length + 1 = b → st = ((.inr (t, n, o) : zV) :: av).reverse ++ rest → rest.length ≤ 8 → nx1 ≤ nxE → zCl d1 cp nx cp1 nx1 a (.inr (t, n, o) :: av) σ Q1 → (∀ v σ1, Q1 v σ1 → zJ G (zmt y).2.2.1 nx0 nxE p l e R s m args below meth c Qm cp1 nx1 (pc + 3) ls (v.toList ++ rest) σ1) → zJ G (zmt y).2.2.1 nx0 nxE p l e R s m args below meth c Qm cp nx pc ls st σ)
    (h : zst_i F d nxE cp nx pc r ls st σ len a b) : zJ G (zmt y).2.2.1 nx0 nxE p l e R s m args below meth c Qm cp nx pc ls st σ := by
  obtain ⟨av, rest, hk, hst, hav⟩ := zpop_elim h
  obtain ⟨hb, hk⟩ := zcond hk
  simp only [Bool.and_eq_true] at hb
  subst hlen
  cases d with
  | zero => exact hk.elim
  | succ d1 =>
    obtain ⟨cp1, nx1, h1, -, hcl⟩ := hk
    match av, hb, hst, hav, hcl with
    | [], hb, _, _, _ => exact absurd hb.2 (by decide)
    | .inl x :: av, hb, _, _, _ => exact absurd hb.2 (by intro z; cases z)
    | .inr (t, n, o) :: av, hb, hst, hav, hcl => exact hcall d1 t n o nx1 cp1 av rest _ rfl hav hst (zble hb.1) h1 hcl (fun v σ1 hq => hF _ _ _ _ _ _ hq)
theorem zinit_ck : (List.range 309).all (fun a => !(decide ((zmt a).1.name = "<init>")) || decide ((zmt a).2.2.2 = none)) = true := by decide +kernel
theorem zinit_ret {a : Nat} (ha : a < 309) (h : (zmt a).1.name = "<init>") : (zmt a).2.2.2 = none := by
  have h1 := List.all_eq_true.mp zinit_ck a (List.mem_range.mpr ha)
  simp only [Bool.or_eq_true, Bool.not_eq_true', decide_eq_false_iff_not, decide_eq_true_eq] at h1
  exact h1.resolve_left (fun q => q h)
end ZM
theorem zsw_mono {x : Int32} {K K1 : Nat → Prop} {b : Nat} : ∀ (tg : List (Int32 × Nat)), (∀ t, K t → K1 t) → zsw x K b tg → zsw x K1 b tg
  | [], hk, h => hk _ h
  | (v, t) :: r, hk, h => ⟨fun q => hk _ (h.1 q), fun q => zsw_mono r hk (h.2 q)⟩
theorem zstep2_no {F : zF} {d : Nat} {cpE : Nat → Bool} {nxE : Nat} {Q : zQ} {cp : Nat → Bool} {nx pc : Nat} {r : List (Nat × zIn)} {ls : List (Option zV)} {st : List zV} {σ : zS} {op len a b : Nat} (h76 : ¬ op = 76) (h77 : ¬ op = 77) (h78 : ¬ op = 78) (h79 : ¬ op = 79) (h80 : ¬ op = 80) (h81 : ¬ op = 81) (h82 : ¬ op = 82) : ¬ zstep2 F d cpE nxE Q cp nx pc r ls st σ op len a b := by
  unfold zstep2
  split
  · exact absurd rfl h76
  · exact absurd rfl h77
  · exact absurd rfl h78
  · exact absurd rfl h79
  · exact absurd rfl h80
  · exact absurd rfl h81
  · exact absurd rfl h82
  · exact id
set_option maxHeartbeats 4000000 in
set_option maxRecDepth 100000 in
theorem zstep2_sound {G : zG} {d y nx0 nxE : Nat} {p : Program} {l : Launch} {e : Env} {R : Room} {s : State} {m : MethodId} {args : Array Value} {below : List Frame} {meth : Method} {c : Code} {Qm : State → Prop} {cp cpE : Nat → Bool} {nx pc : Nat} {ls : List (Option zV)} {st : List zV} {σ : zS} {Q : zQ} {F : zF} {r : List (Nat × zIn)} {op len a b idx : Nat}
    (hC : zCx G d y nx0 nxE p R s m args meth c) (hyo : (zmt y).1.cls = zown (zmo y)) (hd : decode (zmt y).2.1 pc = .ok (zdec2 op idx, len)) (hl : zlk2 y op a b idx = true) (hln : len = zlenL.getD op 3)
    (hF : ∀ cp nx pc ls st σ, F cp nx pc r ls st σ → zJ G (zmt y).2.2.1 nx0 nxE p l e R s m args below meth c Qm cp nx pc ls st σ)
    (hEnd : ∀ (v : Option zV) (σ1 : zS) (pc1 : Nat) (ls1 : List (Option zV)), Q v σ1 → zrt y v pc1 → zJ G (zmt y).2.2.1 nx0 nxE p l e R s m args below meth c Qm cpE nxE pc1 ls1 v.toList σ1)
    (h : zstep2 F d cpE nxE Q cp nx pc r ls st σ op len a b) : zJ G (zmt y).2.2.1 nx0 nxE p l e R s m args below meth c Qm cp nx pc ls st σ := by
  have hts := hC.2.2.2.2.1
  by_cases e76 : op = 76
  · subst e76
    have e : len = 2 := hln; subst e
    change (Nat.beq (zmo y) 6 && Nat.blt a 14 && Nat.beq idx (zsiL.getD a 0)) = true at hl
    simp only [Bool.and_eq_true] at hl
    exact zj_ldcS hC hyo (zbeq hl.1.1) (zblt hl.1.2) (zbeq hl.2) hd (hF _ _ _ _ _ _ h)
  by_cases e77 : op = 77
  · subst e77
    have e : len = 3 := hln; subst e
    match st, h with
    | .inr (t, n, o) :: st, h =>
      obtain ⟨ht, hh⟩ := zcond h
      have e30 := zbeq ht
      subst e30
      exact zj_strv hC hyo (of_decide_eq_true hl) hd (hF _ _ _ _ _ _ hh)
  by_cases e78 : op = 78
  · subst e78
    have e : len = 3 := hln; subst e
    match st, h with
    | .inr (t, n, o) :: st, h =>
      obtain ⟨ht, hh⟩ := zcond h
      have e30 := zbeq ht
      subst e30
      exact zj_strc hC hyo (of_decide_eq_true hl) hd (hF _ _ _ _ _ _ hh)
  by_cases e79 : op = 79
  · subst e79
    have e : len = 3 := hln; subst e
    exact zj_comp hC hyo (of_decide_eq_true hl) hd (hF _ _ _ _ _ _ h)
  by_cases e80 : op = 80
  · subst e80
    have e : len = 3 := hln; subst e
    change (zmlL.any _ && !(zms a) && decide ((zmt a).1.name ≠ "<init>") && Nat.beq ((zmp a).2.2.2.2 + 1) b && Nat.beq (zmo a) 12) = true at hl
    simp only [Bool.and_eq_true, Bool.not_eq_true', decide_eq_true_eq] at hl
    obtain ⟨⟨⟨⟨l1, l2⟩, l3⟩, l4⟩, l5⟩ := hl
    obtain ⟨m1, m2⟩ := zml_of l1
    refine zst_s_of hF rfl (fun d1 n o as rest Q1 e1 e2 e3 e4 e6 e7 => ?_) h
    subst e1
    exact zj_callT hC hyo rfl m1 m2 l2 l3 (zbeq l5) (by have := zbeq l4; omega) e3 e4 hd e6 e7
  by_cases e81 : op = 81
  · subst e81
    have e : len = 1 := hln; subst e
    match st, h with
    | [.inl x], h =>
      obtain ⟨rfl, rfl, hxc, hq⟩ := h
      exact hEnd (some (.inl x)) σ pc ls hq ⟨hd, Or.inr (Or.inr (Or.inl ⟨of_decide_eq_true hl, hxc⟩))⟩
  by_cases e82 : op = 82
  · subst e82
    have e : len = 1 := hln; subst e
    match st, h with
    | [.inl x], h =>
      obtain ⟨rfl, rfl, hxc, hq⟩ := h
      exact hEnd (some (.inl x)) σ pc ls hq ⟨hd, Or.inr (Or.inr (Or.inr ⟨of_decide_eq_true hl, hxc⟩))⟩
  exact (zstep2_no e76 e77 e78 e79 e80 e81 e82 h).elim
theorem zdec_hi {pc op : Nat} {imm : Int32} {a b idx : Nat} {tg : List (Int32 × Nat)} (h : ¬ op < 76) : zdec pc op imm a b idx tg = zdec2 op idx := by
  obtain ⟨n, rfl⟩ : ∃ n, op = n + 76 := ⟨op - 76, by omega⟩
  rfl
theorem zlk_hi {y op : Nat} {imm : Int32} {a b idx : Nat} {tg : List (Int32 × Nat)} (h : ¬ op < 76) : zlk y op imm a b idx tg = zlk2 y op a b idx := by
  obtain ⟨n, rfl⟩ : ∃ n, op = n + 76 := ⟨op - 76, by omega⟩
  rfl
theorem zstep_hi {F : zF} {cd : List (Nat × zIn)} {d : Nat} {cpE : Nat → Bool} {nxE : Nat} {Q : zQ} {cp : Nat → Bool} {nx pc : Nat} {r : List (Nat × zIn)} {ls : List (Option zV)} {st : List zV} {σ : zS} {op len : Nat} {imm : Int32} {a b : Nat} {tg : List (Int32 × Nat)} (h : ¬ op < 76) : zstep F cd d cpE nxE Q cp nx pc r ls st σ op len imm a b tg = zstep2 F d cpE nxE Q cp nx pc r ls st σ op len a b := by
  obtain ⟨n, rfl⟩ : ∃ n, op = n + 76 := ⟨op - 76, by omega⟩
  rfl
set_option maxHeartbeats 400000 in
set_option maxRecDepth 100000 in
theorem zs_0 {G : zG} {d y nx0 nxE : Nat} {p : Program} {l : Launch} {e : Env} {R : Room} {s : State} {m : MethodId} {args : Array Value} {below : List Frame} {meth : Method} {c : Code} {Qm : State → Prop} {cp cpE : Nat → Bool} {nx pc : Nat} {ls : List (Option zV)} {st : List zV} {σ : zS} {Q : zQ} {F : zF} {cd r : List (Nat × zIn)} {len a b idx : Nat} {imm : Int32} {tg : List (Int32 × Nat)}
    (hC : zCx G d y nx0 nxE p R s m args meth c) (hyo : (zmt y).1.cls = zown (zmo y)) (hd : decode (zmt y).2.1 pc = .ok (zdec pc 0 imm a b idx tg, len)) (hl : zlk y 0 imm a b idx tg = true) (hln : (Nat.beq 0 43 || Nat.beq 0 44 || Nat.beq len (zlenL.getD 0 3)) = true)
    (hF : ∀ cp nx pc ls st σ, F cp nx pc r ls st σ → zJ G (zmt y).2.2.1 nx0 nxE p l e R s m args below meth c Qm cp nx pc ls st σ)
    (hG : ∀ t cp nx pc ls st σ, F cp nx pc (zseek cd t) ls st σ → zJ G (zmt y).2.2.1 nx0 nxE p l e R s m args below meth c Qm cp nx pc ls st σ)
    (hEnd : ∀ (v : Option zV) (σ1 : zS) (pc1 : Nat) (ls1 : List (Option zV)), Q v σ1 → zrt y v pc1 → zJ G (zmt y).2.2.1 nx0 nxE p l e R s m args below meth c Qm cpE nxE pc1 ls1 v.toList σ1)
    (h : zstep F cd d cpE nxE Q cp nx pc r ls st σ 0 len imm a b tg) : zJ G (zmt y).2.2.1 nx0 nxE p l e R s m args below meth c Qm cp nx pc ls st σ := by
  have hx := hC.1
  have hb := hC.2.1
  have e := zbeq (a := len) (b := 1) hln; subst e; exact zj_iconst hx hb hd (hF _ _ _ _ _ _ h)
set_option maxHeartbeats 400000 in
set_option maxRecDepth 100000 in
theorem zs_1 {G : zG} {d y nx0 nxE : Nat} {p : Program} {l : Launch} {e : Env} {R : Room} {s : State} {m : MethodId} {args : Array Value} {below : List Frame} {meth : Method} {c : Code} {Qm : State → Prop} {cp cpE : Nat → Bool} {nx pc : Nat} {ls : List (Option zV)} {st : List zV} {σ : zS} {Q : zQ} {F : zF} {cd r : List (Nat × zIn)} {len a b idx : Nat} {imm : Int32} {tg : List (Int32 × Nat)}
    (hC : zCx G d y nx0 nxE p R s m args meth c) (hyo : (zmt y).1.cls = zown (zmo y)) (hd : decode (zmt y).2.1 pc = .ok (zdec pc 1 imm a b idx tg, len)) (hl : zlk y 1 imm a b idx tg = true) (hln : (Nat.beq 1 43 || Nat.beq 1 44 || Nat.beq len (zlenL.getD 1 3)) = true)
    (hF : ∀ cp nx pc ls st σ, F cp nx pc r ls st σ → zJ G (zmt y).2.2.1 nx0 nxE p l e R s m args below meth c Qm cp nx pc ls st σ)
    (hG : ∀ t cp nx pc ls st σ, F cp nx pc (zseek cd t) ls st σ → zJ G (zmt y).2.2.1 nx0 nxE p l e R s m args below meth c Qm cp nx pc ls st σ)
    (hEnd : ∀ (v : Option zV) (σ1 : zS) (pc1 : Nat) (ls1 : List (Option zV)), Q v σ1 → zrt y v pc1 → zJ G (zmt y).2.2.1 nx0 nxE p l e R s m args below meth c Qm cpE nxE pc1 ls1 v.toList σ1)
    (h : zstep F cd d cpE nxE Q cp nx pc r ls st σ 1 len imm a b tg) : zJ G (zmt y).2.2.1 nx0 nxE p l e R s m args below meth c Qm cp nx pc ls st σ := by
  have hx := hC.1
  have hb := hC.2.1
  have e := zbeq (a := len) (b := 2) hln; subst e; exact zj_bipush hx hb (of_decide_eq_true hl) hd (hF _ _ _ _ _ _ h)
set_option maxHeartbeats 400000 in
set_option maxRecDepth 100000 in
theorem zs_2 {G : zG} {d y nx0 nxE : Nat} {p : Program} {l : Launch} {e : Env} {R : Room} {s : State} {m : MethodId} {args : Array Value} {below : List Frame} {meth : Method} {c : Code} {Qm : State → Prop} {cp cpE : Nat → Bool} {nx pc : Nat} {ls : List (Option zV)} {st : List zV} {σ : zS} {Q : zQ} {F : zF} {cd r : List (Nat × zIn)} {len a b idx : Nat} {imm : Int32} {tg : List (Int32 × Nat)}
    (hC : zCx G d y nx0 nxE p R s m args meth c) (hyo : (zmt y).1.cls = zown (zmo y)) (hd : decode (zmt y).2.1 pc = .ok (zdec pc 2 imm a b idx tg, len)) (hl : zlk y 2 imm a b idx tg = true) (hln : (Nat.beq 2 43 || Nat.beq 2 44 || Nat.beq len (zlenL.getD 2 3)) = true)
    (hF : ∀ cp nx pc ls st σ, F cp nx pc r ls st σ → zJ G (zmt y).2.2.1 nx0 nxE p l e R s m args below meth c Qm cp nx pc ls st σ)
    (hG : ∀ t cp nx pc ls st σ, F cp nx pc (zseek cd t) ls st σ → zJ G (zmt y).2.2.1 nx0 nxE p l e R s m args below meth c Qm cp nx pc ls st σ)
    (hEnd : ∀ (v : Option zV) (σ1 : zS) (pc1 : Nat) (ls1 : List (Option zV)), Q v σ1 → zrt y v pc1 → zJ G (zmt y).2.2.1 nx0 nxE p l e R s m args below meth c Qm cpE nxE pc1 ls1 v.toList σ1)
    (h : zstep F cd d cpE nxE Q cp nx pc r ls st σ 2 len imm a b tg) : zJ G (zmt y).2.2.1 nx0 nxE p l e R s m args below meth c Qm cp nx pc ls st σ := by
  have hx := hC.1
  have hb := hC.2.1
  have e := zbeq (a := len) (b := 3) hln; subst e; exact zj_sipush hx hb (of_decide_eq_true hl) hd (hF _ _ _ _ _ _ h)
set_option maxHeartbeats 400000 in
set_option maxRecDepth 100000 in
theorem zs_3 {G : zG} {d y nx0 nxE : Nat} {p : Program} {l : Launch} {e : Env} {R : Room} {s : State} {m : MethodId} {args : Array Value} {below : List Frame} {meth : Method} {c : Code} {Qm : State → Prop} {cp cpE : Nat → Bool} {nx pc : Nat} {ls : List (Option zV)} {st : List zV} {σ : zS} {Q : zQ} {F : zF} {cd r : List (Nat × zIn)} {len a b idx : Nat} {imm : Int32} {tg : List (Int32 × Nat)}
    (hC : zCx G d y nx0 nxE p R s m args meth c) (hyo : (zmt y).1.cls = zown (zmo y)) (hd : decode (zmt y).2.1 pc = .ok (zdec pc 3 imm a b idx tg, len)) (hl : zlk y 3 imm a b idx tg = true) (hln : (Nat.beq 3 43 || Nat.beq 3 44 || Nat.beq len (zlenL.getD 3 3)) = true)
    (hF : ∀ cp nx pc ls st σ, F cp nx pc r ls st σ → zJ G (zmt y).2.2.1 nx0 nxE p l e R s m args below meth c Qm cp nx pc ls st σ)
    (hG : ∀ t cp nx pc ls st σ, F cp nx pc (zseek cd t) ls st σ → zJ G (zmt y).2.2.1 nx0 nxE p l e R s m args below meth c Qm cp nx pc ls st σ)
    (hEnd : ∀ (v : Option zV) (σ1 : zS) (pc1 : Nat) (ls1 : List (Option zV)), Q v σ1 → zrt y v pc1 → zJ G (zmt y).2.2.1 nx0 nxE p l e R s m args below meth c Qm cpE nxE pc1 ls1 v.toList σ1)
    (h : zstep F cd d cpE nxE Q cp nx pc r ls st σ 3 len imm a b tg) : zJ G (zmt y).2.2.1 nx0 nxE p l e R s m args below meth c Qm cp nx pc ls st σ := by
  have hx := hC.1
  have hb := hC.2.1
  have hown : s.vm.findClass (zown (zmo y)) = some m.cls := by rw [← hyo]; exact hC.2.2.2.1
  have hts := hC.2.2.2.2.1
  have e := zbeq (a := len) (b := 2) hln; subst e; exact zj_ldc hx hb hown (hts _ (zcn_of hl)) hd (hF _ _ _ _ _ _ h)
set_option maxHeartbeats 400000 in
set_option maxRecDepth 100000 in
theorem zs_4 {G : zG} {d y nx0 nxE : Nat} {p : Program} {l : Launch} {e : Env} {R : Room} {s : State} {m : MethodId} {args : Array Value} {below : List Frame} {meth : Method} {c : Code} {Qm : State → Prop} {cp cpE : Nat → Bool} {nx pc : Nat} {ls : List (Option zV)} {st : List zV} {σ : zS} {Q : zQ} {F : zF} {cd r : List (Nat × zIn)} {len a b idx : Nat} {imm : Int32} {tg : List (Int32 × Nat)}
    (hC : zCx G d y nx0 nxE p R s m args meth c) (hyo : (zmt y).1.cls = zown (zmo y)) (hd : decode (zmt y).2.1 pc = .ok (zdec pc 4 imm a b idx tg, len)) (hl : zlk y 4 imm a b idx tg = true) (hln : (Nat.beq 4 43 || Nat.beq 4 44 || Nat.beq len (zlenL.getD 4 3)) = true)
    (hF : ∀ cp nx pc ls st σ, F cp nx pc r ls st σ → zJ G (zmt y).2.2.1 nx0 nxE p l e R s m args below meth c Qm cp nx pc ls st σ)
    (hG : ∀ t cp nx pc ls st σ, F cp nx pc (zseek cd t) ls st σ → zJ G (zmt y).2.2.1 nx0 nxE p l e R s m args below meth c Qm cp nx pc ls st σ)
    (hEnd : ∀ (v : Option zV) (σ1 : zS) (pc1 : Nat) (ls1 : List (Option zV)), Q v σ1 → zrt y v pc1 → zJ G (zmt y).2.2.1 nx0 nxE p l e R s m args below meth c Qm cpE nxE pc1 ls1 v.toList σ1)
    (h : zstep F cd d cpE nxE Q cp nx pc r ls st σ 4 len imm a b tg) : zJ G (zmt y).2.2.1 nx0 nxE p l e R s m args below meth c Qm cp nx pc ls st σ := by
  have hx := hC.1
  have hb := hC.2.1
  have hown : s.vm.findClass (zown (zmo y)) = some m.cls := by rw [← hyo]; exact hC.2.2.2.1
  have hts := hC.2.2.2.2.1
  have e := zbeq (a := len) (b := 3) hln; subst e; exact zj_ldcw hx hb hown (hts _ (zcn_of hl)) hd (hF _ _ _ _ _ _ h)
set_option maxHeartbeats 400000 in
set_option maxRecDepth 100000 in
theorem zs_5 {G : zG} {d y nx0 nxE : Nat} {p : Program} {l : Launch} {e : Env} {R : Room} {s : State} {m : MethodId} {args : Array Value} {below : List Frame} {meth : Method} {c : Code} {Qm : State → Prop} {cp cpE : Nat → Bool} {nx pc : Nat} {ls : List (Option zV)} {st : List zV} {σ : zS} {Q : zQ} {F : zF} {cd r : List (Nat × zIn)} {len a b idx : Nat} {imm : Int32} {tg : List (Int32 × Nat)}
    (hC : zCx G d y nx0 nxE p R s m args meth c) (hyo : (zmt y).1.cls = zown (zmo y)) (hd : decode (zmt y).2.1 pc = .ok (zdec pc 5 imm a b idx tg, len)) (hl : zlk y 5 imm a b idx tg = true) (hln : (Nat.beq 5 43 || Nat.beq 5 44 || Nat.beq len (zlenL.getD 5 3)) = true)
    (hF : ∀ cp nx pc ls st σ, F cp nx pc r ls st σ → zJ G (zmt y).2.2.1 nx0 nxE p l e R s m args below meth c Qm cp nx pc ls st σ)
    (hG : ∀ t cp nx pc ls st σ, F cp nx pc (zseek cd t) ls st σ → zJ G (zmt y).2.2.1 nx0 nxE p l e R s m args below meth c Qm cp nx pc ls st σ)
    (hEnd : ∀ (v : Option zV) (σ1 : zS) (pc1 : Nat) (ls1 : List (Option zV)), Q v σ1 → zrt y v pc1 → zJ G (zmt y).2.2.1 nx0 nxE p l e R s m args below meth c Qm cpE nxE pc1 ls1 v.toList σ1)
    (h : zstep F cd d cpE nxE Q cp nx pc r ls st σ 5 len imm a b tg) : zJ G (zmt y).2.2.1 nx0 nxE p l e R s m args below meth c Qm cp nx pc ls st σ := by
  have hx := hC.1
  have hb := hC.2.1
  have e := zbeq (a := len) (b := 1) hln; subst e
  change (match ls[a]? with | some (some (.inl x)) => _ | _ => False) at h
  split at h
  · rename_i x hq
    exact zj_iload_n hx hb hl hq hd (hF _ _ _ _ _ _ h)
  · exact h.elim
set_option maxHeartbeats 400000 in
set_option maxRecDepth 100000 in
theorem zs_6 {G : zG} {d y nx0 nxE : Nat} {p : Program} {l : Launch} {e : Env} {R : Room} {s : State} {m : MethodId} {args : Array Value} {below : List Frame} {meth : Method} {c : Code} {Qm : State → Prop} {cp cpE : Nat → Bool} {nx pc : Nat} {ls : List (Option zV)} {st : List zV} {σ : zS} {Q : zQ} {F : zF} {cd r : List (Nat × zIn)} {len a b idx : Nat} {imm : Int32} {tg : List (Int32 × Nat)}
    (hC : zCx G d y nx0 nxE p R s m args meth c) (hyo : (zmt y).1.cls = zown (zmo y)) (hd : decode (zmt y).2.1 pc = .ok (zdec pc 6 imm a b idx tg, len)) (hl : zlk y 6 imm a b idx tg = true) (hln : (Nat.beq 6 43 || Nat.beq 6 44 || Nat.beq len (zlenL.getD 6 3)) = true)
    (hF : ∀ cp nx pc ls st σ, F cp nx pc r ls st σ → zJ G (zmt y).2.2.1 nx0 nxE p l e R s m args below meth c Qm cp nx pc ls st σ)
    (hG : ∀ t cp nx pc ls st σ, F cp nx pc (zseek cd t) ls st σ → zJ G (zmt y).2.2.1 nx0 nxE p l e R s m args below meth c Qm cp nx pc ls st σ)
    (hEnd : ∀ (v : Option zV) (σ1 : zS) (pc1 : Nat) (ls1 : List (Option zV)), Q v σ1 → zrt y v pc1 → zJ G (zmt y).2.2.1 nx0 nxE p l e R s m args below meth c Qm cpE nxE pc1 ls1 v.toList σ1)
    (h : zstep F cd d cpE nxE Q cp nx pc r ls st σ 6 len imm a b tg) : zJ G (zmt y).2.2.1 nx0 nxE p l e R s m args below meth c Qm cp nx pc ls st σ := by
  have hx := hC.1
  have hb := hC.2.1
  have e := zbeq (a := len) (b := 2) hln; subst e
  change (match ls[a]? with | some (some (.inl x)) => _ | _ => False) at h
  split at h
  · rename_i x hq
    exact zj_iload hx hb hq hd (hF _ _ _ _ _ _ h)
  · exact h.elim
set_option maxHeartbeats 400000 in
set_option maxRecDepth 100000 in
theorem zs_7 {G : zG} {d y nx0 nxE : Nat} {p : Program} {l : Launch} {e : Env} {R : Room} {s : State} {m : MethodId} {args : Array Value} {below : List Frame} {meth : Method} {c : Code} {Qm : State → Prop} {cp cpE : Nat → Bool} {nx pc : Nat} {ls : List (Option zV)} {st : List zV} {σ : zS} {Q : zQ} {F : zF} {cd r : List (Nat × zIn)} {len a b idx : Nat} {imm : Int32} {tg : List (Int32 × Nat)}
    (hC : zCx G d y nx0 nxE p R s m args meth c) (hyo : (zmt y).1.cls = zown (zmo y)) (hd : decode (zmt y).2.1 pc = .ok (zdec pc 7 imm a b idx tg, len)) (hl : zlk y 7 imm a b idx tg = true) (hln : (Nat.beq 7 43 || Nat.beq 7 44 || Nat.beq len (zlenL.getD 7 3)) = true)
    (hF : ∀ cp nx pc ls st σ, F cp nx pc r ls st σ → zJ G (zmt y).2.2.1 nx0 nxE p l e R s m args below meth c Qm cp nx pc ls st σ)
    (hG : ∀ t cp nx pc ls st σ, F cp nx pc (zseek cd t) ls st σ → zJ G (zmt y).2.2.1 nx0 nxE p l e R s m args below meth c Qm cp nx pc ls st σ)
    (hEnd : ∀ (v : Option zV) (σ1 : zS) (pc1 : Nat) (ls1 : List (Option zV)), Q v σ1 → zrt y v pc1 → zJ G (zmt y).2.2.1 nx0 nxE p l e R s m args below meth c Qm cpE nxE pc1 ls1 v.toList σ1)
    (h : zstep F cd d cpE nxE Q cp nx pc r ls st σ 7 len imm a b tg) : zJ G (zmt y).2.2.1 nx0 nxE p l e R s m args below meth c Qm cp nx pc ls st σ := by
  have hx := hC.1
  have hb := hC.2.1
  have e := zbeq (a := len) (b := 1) hln; subst e
  change (match ls[a]? with | some (some (.inr x)) => _ | _ => False) at h
  split at h
  · rename_i x hq
    exact zj_aload_n hx hb hl hq hd (hF _ _ _ _ _ _ h)
  · exact h.elim
set_option maxHeartbeats 400000 in
set_option maxRecDepth 100000 in
theorem zs_8 {G : zG} {d y nx0 nxE : Nat} {p : Program} {l : Launch} {e : Env} {R : Room} {s : State} {m : MethodId} {args : Array Value} {below : List Frame} {meth : Method} {c : Code} {Qm : State → Prop} {cp cpE : Nat → Bool} {nx pc : Nat} {ls : List (Option zV)} {st : List zV} {σ : zS} {Q : zQ} {F : zF} {cd r : List (Nat × zIn)} {len a b idx : Nat} {imm : Int32} {tg : List (Int32 × Nat)}
    (hC : zCx G d y nx0 nxE p R s m args meth c) (hyo : (zmt y).1.cls = zown (zmo y)) (hd : decode (zmt y).2.1 pc = .ok (zdec pc 8 imm a b idx tg, len)) (hl : zlk y 8 imm a b idx tg = true) (hln : (Nat.beq 8 43 || Nat.beq 8 44 || Nat.beq len (zlenL.getD 8 3)) = true)
    (hF : ∀ cp nx pc ls st σ, F cp nx pc r ls st σ → zJ G (zmt y).2.2.1 nx0 nxE p l e R s m args below meth c Qm cp nx pc ls st σ)
    (hG : ∀ t cp nx pc ls st σ, F cp nx pc (zseek cd t) ls st σ → zJ G (zmt y).2.2.1 nx0 nxE p l e R s m args below meth c Qm cp nx pc ls st σ)
    (hEnd : ∀ (v : Option zV) (σ1 : zS) (pc1 : Nat) (ls1 : List (Option zV)), Q v σ1 → zrt y v pc1 → zJ G (zmt y).2.2.1 nx0 nxE p l e R s m args below meth c Qm cpE nxE pc1 ls1 v.toList σ1)
    (h : zstep F cd d cpE nxE Q cp nx pc r ls st σ 8 len imm a b tg) : zJ G (zmt y).2.2.1 nx0 nxE p l e R s m args below meth c Qm cp nx pc ls st σ := by
  have hx := hC.1
  have hb := hC.2.1
  have e := zbeq (a := len) (b := 2) hln; subst e
  change (match ls[a]? with | some (some (.inr x)) => _ | _ => False) at h
  split at h
  · rename_i x hq
    exact zj_aload hx hb hq hd (hF _ _ _ _ _ _ h)
  · exact h.elim
set_option maxHeartbeats 400000 in
set_option maxRecDepth 100000 in
theorem zs_9 {G : zG} {d y nx0 nxE : Nat} {p : Program} {l : Launch} {e : Env} {R : Room} {s : State} {m : MethodId} {args : Array Value} {below : List Frame} {meth : Method} {c : Code} {Qm : State → Prop} {cp cpE : Nat → Bool} {nx pc : Nat} {ls : List (Option zV)} {st : List zV} {σ : zS} {Q : zQ} {F : zF} {cd r : List (Nat × zIn)} {len a b idx : Nat} {imm : Int32} {tg : List (Int32 × Nat)}
    (hC : zCx G d y nx0 nxE p R s m args meth c) (hyo : (zmt y).1.cls = zown (zmo y)) (hd : decode (zmt y).2.1 pc = .ok (zdec pc 9 imm a b idx tg, len)) (hl : zlk y 9 imm a b idx tg = true) (hln : (Nat.beq 9 43 || Nat.beq 9 44 || Nat.beq len (zlenL.getD 9 3)) = true)
    (hF : ∀ cp nx pc ls st σ, F cp nx pc r ls st σ → zJ G (zmt y).2.2.1 nx0 nxE p l e R s m args below meth c Qm cp nx pc ls st σ)
    (hG : ∀ t cp nx pc ls st σ, F cp nx pc (zseek cd t) ls st σ → zJ G (zmt y).2.2.1 nx0 nxE p l e R s m args below meth c Qm cp nx pc ls st σ)
    (hEnd : ∀ (v : Option zV) (σ1 : zS) (pc1 : Nat) (ls1 : List (Option zV)), Q v σ1 → zrt y v pc1 → zJ G (zmt y).2.2.1 nx0 nxE p l e R s m args below meth c Qm cpE nxE pc1 ls1 v.toList σ1)
    (h : zstep F cd d cpE nxE Q cp nx pc r ls st σ 9 len imm a b tg) : zJ G (zmt y).2.2.1 nx0 nxE p l e R s m args below meth c Qm cp nx pc ls st σ := by
  have hx := hC.1
  have hb := hC.2.1
  have e := zbeq (a := len) (b := 1) hln; subst e
  match st, h with
  | .inl x :: st, h =>
    change (match ls[a]? with | some _ => _ | none => False) at h
    split at h
    · rename_i hq
      exact zj_istore_n hx hb hl hq hd (hF _ _ _ _ _ _ h)
    · exact h.elim
set_option maxHeartbeats 400000 in
set_option maxRecDepth 100000 in
theorem zs_10 {G : zG} {d y nx0 nxE : Nat} {p : Program} {l : Launch} {e : Env} {R : Room} {s : State} {m : MethodId} {args : Array Value} {below : List Frame} {meth : Method} {c : Code} {Qm : State → Prop} {cp cpE : Nat → Bool} {nx pc : Nat} {ls : List (Option zV)} {st : List zV} {σ : zS} {Q : zQ} {F : zF} {cd r : List (Nat × zIn)} {len a b idx : Nat} {imm : Int32} {tg : List (Int32 × Nat)}
    (hC : zCx G d y nx0 nxE p R s m args meth c) (hyo : (zmt y).1.cls = zown (zmo y)) (hd : decode (zmt y).2.1 pc = .ok (zdec pc 10 imm a b idx tg, len)) (hl : zlk y 10 imm a b idx tg = true) (hln : (Nat.beq 10 43 || Nat.beq 10 44 || Nat.beq len (zlenL.getD 10 3)) = true)
    (hF : ∀ cp nx pc ls st σ, F cp nx pc r ls st σ → zJ G (zmt y).2.2.1 nx0 nxE p l e R s m args below meth c Qm cp nx pc ls st σ)
    (hG : ∀ t cp nx pc ls st σ, F cp nx pc (zseek cd t) ls st σ → zJ G (zmt y).2.2.1 nx0 nxE p l e R s m args below meth c Qm cp nx pc ls st σ)
    (hEnd : ∀ (v : Option zV) (σ1 : zS) (pc1 : Nat) (ls1 : List (Option zV)), Q v σ1 → zrt y v pc1 → zJ G (zmt y).2.2.1 nx0 nxE p l e R s m args below meth c Qm cpE nxE pc1 ls1 v.toList σ1)
    (h : zstep F cd d cpE nxE Q cp nx pc r ls st σ 10 len imm a b tg) : zJ G (zmt y).2.2.1 nx0 nxE p l e R s m args below meth c Qm cp nx pc ls st σ := by
  have hx := hC.1
  have hb := hC.2.1
  have e := zbeq (a := len) (b := 2) hln; subst e
  match st, h with
  | .inl x :: st, h =>
    change (match ls[a]? with | some _ => _ | none => False) at h
    split at h
    · rename_i hq
      exact zj_istore hx hb hq hd (hF _ _ _ _ _ _ h)
    · exact h.elim
set_option maxHeartbeats 400000 in
set_option maxRecDepth 100000 in
theorem zs_11 {G : zG} {d y nx0 nxE : Nat} {p : Program} {l : Launch} {e : Env} {R : Room} {s : State} {m : MethodId} {args : Array Value} {below : List Frame} {meth : Method} {c : Code} {Qm : State → Prop} {cp cpE : Nat → Bool} {nx pc : Nat} {ls : List (Option zV)} {st : List zV} {σ : zS} {Q : zQ} {F : zF} {cd r : List (Nat × zIn)} {len a b idx : Nat} {imm : Int32} {tg : List (Int32 × Nat)}
    (hC : zCx G d y nx0 nxE p R s m args meth c) (hyo : (zmt y).1.cls = zown (zmo y)) (hd : decode (zmt y).2.1 pc = .ok (zdec pc 11 imm a b idx tg, len)) (hl : zlk y 11 imm a b idx tg = true) (hln : (Nat.beq 11 43 || Nat.beq 11 44 || Nat.beq len (zlenL.getD 11 3)) = true)
    (hF : ∀ cp nx pc ls st σ, F cp nx pc r ls st σ → zJ G (zmt y).2.2.1 nx0 nxE p l e R s m args below meth c Qm cp nx pc ls st σ)
    (hG : ∀ t cp nx pc ls st σ, F cp nx pc (zseek cd t) ls st σ → zJ G (zmt y).2.2.1 nx0 nxE p l e R s m args below meth c Qm cp nx pc ls st σ)
    (hEnd : ∀ (v : Option zV) (σ1 : zS) (pc1 : Nat) (ls1 : List (Option zV)), Q v σ1 → zrt y v pc1 → zJ G (zmt y).2.2.1 nx0 nxE p l e R s m args below meth c Qm cpE nxE pc1 ls1 v.toList σ1)
    (h : zstep F cd d cpE nxE Q cp nx pc r ls st σ 11 len imm a b tg) : zJ G (zmt y).2.2.1 nx0 nxE p l e R s m args below meth c Qm cp nx pc ls st σ := by
  have hx := hC.1
  have hb := hC.2.1
  have e := zbeq (a := len) (b := 1) hln; subst e
  match st, h with
  | .inr x :: st, h =>
    change (match ls[a]? with | some _ => _ | none => False) at h
    split at h
    · rename_i hq
      exact zj_astore_n hx hb hl hq hd (hF _ _ _ _ _ _ h)
    · exact h.elim
set_option maxHeartbeats 400000 in
set_option maxRecDepth 100000 in
theorem zs_12 {G : zG} {d y nx0 nxE : Nat} {p : Program} {l : Launch} {e : Env} {R : Room} {s : State} {m : MethodId} {args : Array Value} {below : List Frame} {meth : Method} {c : Code} {Qm : State → Prop} {cp cpE : Nat → Bool} {nx pc : Nat} {ls : List (Option zV)} {st : List zV} {σ : zS} {Q : zQ} {F : zF} {cd r : List (Nat × zIn)} {len a b idx : Nat} {imm : Int32} {tg : List (Int32 × Nat)}
    (hC : zCx G d y nx0 nxE p R s m args meth c) (hyo : (zmt y).1.cls = zown (zmo y)) (hd : decode (zmt y).2.1 pc = .ok (zdec pc 12 imm a b idx tg, len)) (hl : zlk y 12 imm a b idx tg = true) (hln : (Nat.beq 12 43 || Nat.beq 12 44 || Nat.beq len (zlenL.getD 12 3)) = true)
    (hF : ∀ cp nx pc ls st σ, F cp nx pc r ls st σ → zJ G (zmt y).2.2.1 nx0 nxE p l e R s m args below meth c Qm cp nx pc ls st σ)
    (hG : ∀ t cp nx pc ls st σ, F cp nx pc (zseek cd t) ls st σ → zJ G (zmt y).2.2.1 nx0 nxE p l e R s m args below meth c Qm cp nx pc ls st σ)
    (hEnd : ∀ (v : Option zV) (σ1 : zS) (pc1 : Nat) (ls1 : List (Option zV)), Q v σ1 → zrt y v pc1 → zJ G (zmt y).2.2.1 nx0 nxE p l e R s m args below meth c Qm cpE nxE pc1 ls1 v.toList σ1)
    (h : zstep F cd d cpE nxE Q cp nx pc r ls st σ 12 len imm a b tg) : zJ G (zmt y).2.2.1 nx0 nxE p l e R s m args below meth c Qm cp nx pc ls st σ := by
  have hx := hC.1
  have hb := hC.2.1
  have e := zbeq (a := len) (b := 2) hln; subst e
  match st, h with
  | .inr x :: st, h =>
    change (match ls[a]? with | some _ => _ | none => False) at h
    split at h
    · rename_i hq
      exact zj_astore hx hb hq hd (hF _ _ _ _ _ _ h)
    · exact h.elim
set_option maxHeartbeats 400000 in
set_option maxRecDepth 100000 in
theorem zs_13 {G : zG} {d y nx0 nxE : Nat} {p : Program} {l : Launch} {e : Env} {R : Room} {s : State} {m : MethodId} {args : Array Value} {below : List Frame} {meth : Method} {c : Code} {Qm : State → Prop} {cp cpE : Nat → Bool} {nx pc : Nat} {ls : List (Option zV)} {st : List zV} {σ : zS} {Q : zQ} {F : zF} {cd r : List (Nat × zIn)} {len a b idx : Nat} {imm : Int32} {tg : List (Int32 × Nat)}
    (hC : zCx G d y nx0 nxE p R s m args meth c) (hyo : (zmt y).1.cls = zown (zmo y)) (hd : decode (zmt y).2.1 pc = .ok (zdec pc 13 imm a b idx tg, len)) (hl : zlk y 13 imm a b idx tg = true) (hln : (Nat.beq 13 43 || Nat.beq 13 44 || Nat.beq len (zlenL.getD 13 3)) = true)
    (hF : ∀ cp nx pc ls st σ, F cp nx pc r ls st σ → zJ G (zmt y).2.2.1 nx0 nxE p l e R s m args below meth c Qm cp nx pc ls st σ)
    (hG : ∀ t cp nx pc ls st σ, F cp nx pc (zseek cd t) ls st σ → zJ G (zmt y).2.2.1 nx0 nxE p l e R s m args below meth c Qm cp nx pc ls st σ)
    (hEnd : ∀ (v : Option zV) (σ1 : zS) (pc1 : Nat) (ls1 : List (Option zV)), Q v σ1 → zrt y v pc1 → zJ G (zmt y).2.2.1 nx0 nxE p l e R s m args below meth c Qm cpE nxE pc1 ls1 v.toList σ1)
    (h : zstep F cd d cpE nxE Q cp nx pc r ls st σ 13 len imm a b tg) : zJ G (zmt y).2.2.1 nx0 nxE p l e R s m args below meth c Qm cp nx pc ls st σ := by
  have hx := hC.1
  have hb := hC.2.1
  have e := zbeq (a := len) (b := 3) hln; subst e
  change (match ls[a]? with | some (some (.inl x)) => _ | _ => False) at h
  split at h
  · rename_i x hq
    exact zj_iinc hx hb hq hd (hF _ _ _ _ _ _ h)
  · exact h.elim
set_option maxHeartbeats 400000 in
set_option maxRecDepth 100000 in
theorem zs_14 {G : zG} {d y nx0 nxE : Nat} {p : Program} {l : Launch} {e : Env} {R : Room} {s : State} {m : MethodId} {args : Array Value} {below : List Frame} {meth : Method} {c : Code} {Qm : State → Prop} {cp cpE : Nat → Bool} {nx pc : Nat} {ls : List (Option zV)} {st : List zV} {σ : zS} {Q : zQ} {F : zF} {cd r : List (Nat × zIn)} {len a b idx : Nat} {imm : Int32} {tg : List (Int32 × Nat)}
    (hC : zCx G d y nx0 nxE p R s m args meth c) (hyo : (zmt y).1.cls = zown (zmo y)) (hd : decode (zmt y).2.1 pc = .ok (zdec pc 14 imm a b idx tg, len)) (hl : zlk y 14 imm a b idx tg = true) (hln : (Nat.beq 14 43 || Nat.beq 14 44 || Nat.beq len (zlenL.getD 14 3)) = true)
    (hF : ∀ cp nx pc ls st σ, F cp nx pc r ls st σ → zJ G (zmt y).2.2.1 nx0 nxE p l e R s m args below meth c Qm cp nx pc ls st σ)
    (hG : ∀ t cp nx pc ls st σ, F cp nx pc (zseek cd t) ls st σ → zJ G (zmt y).2.2.1 nx0 nxE p l e R s m args below meth c Qm cp nx pc ls st σ)
    (hEnd : ∀ (v : Option zV) (σ1 : zS) (pc1 : Nat) (ls1 : List (Option zV)), Q v σ1 → zrt y v pc1 → zJ G (zmt y).2.2.1 nx0 nxE p l e R s m args below meth c Qm cpE nxE pc1 ls1 v.toList σ1)
    (h : zstep F cd d cpE nxE Q cp nx pc r ls st σ 14 len imm a b tg) : zJ G (zmt y).2.2.1 nx0 nxE p l e R s m args below meth c Qm cp nx pc ls st σ := by
  have hx := hC.1
  have hb := hC.2.1
  have e := zbeq (a := len) (b := 1) hln; subst e
  match st, h with
  | .inl z :: .inl x :: st, h => exact zj_iadd hx hb hd (hF _ _ _ _ _ _ h)
set_option maxHeartbeats 400000 in
set_option maxRecDepth 100000 in
theorem zs_15 {G : zG} {d y nx0 nxE : Nat} {p : Program} {l : Launch} {e : Env} {R : Room} {s : State} {m : MethodId} {args : Array Value} {below : List Frame} {meth : Method} {c : Code} {Qm : State → Prop} {cp cpE : Nat → Bool} {nx pc : Nat} {ls : List (Option zV)} {st : List zV} {σ : zS} {Q : zQ} {F : zF} {cd r : List (Nat × zIn)} {len a b idx : Nat} {imm : Int32} {tg : List (Int32 × Nat)}
    (hC : zCx G d y nx0 nxE p R s m args meth c) (hyo : (zmt y).1.cls = zown (zmo y)) (hd : decode (zmt y).2.1 pc = .ok (zdec pc 15 imm a b idx tg, len)) (hl : zlk y 15 imm a b idx tg = true) (hln : (Nat.beq 15 43 || Nat.beq 15 44 || Nat.beq len (zlenL.getD 15 3)) = true)
    (hF : ∀ cp nx pc ls st σ, F cp nx pc r ls st σ → zJ G (zmt y).2.2.1 nx0 nxE p l e R s m args below meth c Qm cp nx pc ls st σ)
    (hG : ∀ t cp nx pc ls st σ, F cp nx pc (zseek cd t) ls st σ → zJ G (zmt y).2.2.1 nx0 nxE p l e R s m args below meth c Qm cp nx pc ls st σ)
    (hEnd : ∀ (v : Option zV) (σ1 : zS) (pc1 : Nat) (ls1 : List (Option zV)), Q v σ1 → zrt y v pc1 → zJ G (zmt y).2.2.1 nx0 nxE p l e R s m args below meth c Qm cpE nxE pc1 ls1 v.toList σ1)
    (h : zstep F cd d cpE nxE Q cp nx pc r ls st σ 15 len imm a b tg) : zJ G (zmt y).2.2.1 nx0 nxE p l e R s m args below meth c Qm cp nx pc ls st σ := by
  have hx := hC.1
  have hb := hC.2.1
  have e := zbeq (a := len) (b := 1) hln; subst e
  match st, h with
  | .inl z :: .inl x :: st, h => exact zj_isub hx hb hd (hF _ _ _ _ _ _ h)
set_option maxHeartbeats 400000 in
set_option maxRecDepth 100000 in
theorem zs_16 {G : zG} {d y nx0 nxE : Nat} {p : Program} {l : Launch} {e : Env} {R : Room} {s : State} {m : MethodId} {args : Array Value} {below : List Frame} {meth : Method} {c : Code} {Qm : State → Prop} {cp cpE : Nat → Bool} {nx pc : Nat} {ls : List (Option zV)} {st : List zV} {σ : zS} {Q : zQ} {F : zF} {cd r : List (Nat × zIn)} {len a b idx : Nat} {imm : Int32} {tg : List (Int32 × Nat)}
    (hC : zCx G d y nx0 nxE p R s m args meth c) (hyo : (zmt y).1.cls = zown (zmo y)) (hd : decode (zmt y).2.1 pc = .ok (zdec pc 16 imm a b idx tg, len)) (hl : zlk y 16 imm a b idx tg = true) (hln : (Nat.beq 16 43 || Nat.beq 16 44 || Nat.beq len (zlenL.getD 16 3)) = true)
    (hF : ∀ cp nx pc ls st σ, F cp nx pc r ls st σ → zJ G (zmt y).2.2.1 nx0 nxE p l e R s m args below meth c Qm cp nx pc ls st σ)
    (hG : ∀ t cp nx pc ls st σ, F cp nx pc (zseek cd t) ls st σ → zJ G (zmt y).2.2.1 nx0 nxE p l e R s m args below meth c Qm cp nx pc ls st σ)
    (hEnd : ∀ (v : Option zV) (σ1 : zS) (pc1 : Nat) (ls1 : List (Option zV)), Q v σ1 → zrt y v pc1 → zJ G (zmt y).2.2.1 nx0 nxE p l e R s m args below meth c Qm cpE nxE pc1 ls1 v.toList σ1)
    (h : zstep F cd d cpE nxE Q cp nx pc r ls st σ 16 len imm a b tg) : zJ G (zmt y).2.2.1 nx0 nxE p l e R s m args below meth c Qm cp nx pc ls st σ := by
  have hx := hC.1
  have hb := hC.2.1
  have e := zbeq (a := len) (b := 1) hln; subst e
  match st, h with
  | .inl z :: .inl x :: st, h => exact zj_imul hx hb hd (hF _ _ _ _ _ _ h)
set_option maxHeartbeats 400000 in
set_option maxRecDepth 100000 in
theorem zs_17 {G : zG} {d y nx0 nxE : Nat} {p : Program} {l : Launch} {e : Env} {R : Room} {s : State} {m : MethodId} {args : Array Value} {below : List Frame} {meth : Method} {c : Code} {Qm : State → Prop} {cp cpE : Nat → Bool} {nx pc : Nat} {ls : List (Option zV)} {st : List zV} {σ : zS} {Q : zQ} {F : zF} {cd r : List (Nat × zIn)} {len a b idx : Nat} {imm : Int32} {tg : List (Int32 × Nat)}
    (hC : zCx G d y nx0 nxE p R s m args meth c) (hyo : (zmt y).1.cls = zown (zmo y)) (hd : decode (zmt y).2.1 pc = .ok (zdec pc 17 imm a b idx tg, len)) (hl : zlk y 17 imm a b idx tg = true) (hln : (Nat.beq 17 43 || Nat.beq 17 44 || Nat.beq len (zlenL.getD 17 3)) = true)
    (hF : ∀ cp nx pc ls st σ, F cp nx pc r ls st σ → zJ G (zmt y).2.2.1 nx0 nxE p l e R s m args below meth c Qm cp nx pc ls st σ)
    (hG : ∀ t cp nx pc ls st σ, F cp nx pc (zseek cd t) ls st σ → zJ G (zmt y).2.2.1 nx0 nxE p l e R s m args below meth c Qm cp nx pc ls st σ)
    (hEnd : ∀ (v : Option zV) (σ1 : zS) (pc1 : Nat) (ls1 : List (Option zV)), Q v σ1 → zrt y v pc1 → zJ G (zmt y).2.2.1 nx0 nxE p l e R s m args below meth c Qm cpE nxE pc1 ls1 v.toList σ1)
    (h : zstep F cd d cpE nxE Q cp nx pc r ls st σ 17 len imm a b tg) : zJ G (zmt y).2.2.1 nx0 nxE p l e R s m args below meth c Qm cp nx pc ls st σ := by
  have hx := hC.1
  have hb := hC.2.1
  have e := zbeq (a := len) (b := 1) hln; subst e
  match st, h with
  | .inl z :: .inl x :: st, h => exact zj_iand hx hb hd (hF _ _ _ _ _ _ h)
set_option maxHeartbeats 400000 in
set_option maxRecDepth 100000 in
theorem zs_18 {G : zG} {d y nx0 nxE : Nat} {p : Program} {l : Launch} {e : Env} {R : Room} {s : State} {m : MethodId} {args : Array Value} {below : List Frame} {meth : Method} {c : Code} {Qm : State → Prop} {cp cpE : Nat → Bool} {nx pc : Nat} {ls : List (Option zV)} {st : List zV} {σ : zS} {Q : zQ} {F : zF} {cd r : List (Nat × zIn)} {len a b idx : Nat} {imm : Int32} {tg : List (Int32 × Nat)}
    (hC : zCx G d y nx0 nxE p R s m args meth c) (hyo : (zmt y).1.cls = zown (zmo y)) (hd : decode (zmt y).2.1 pc = .ok (zdec pc 18 imm a b idx tg, len)) (hl : zlk y 18 imm a b idx tg = true) (hln : (Nat.beq 18 43 || Nat.beq 18 44 || Nat.beq len (zlenL.getD 18 3)) = true)
    (hF : ∀ cp nx pc ls st σ, F cp nx pc r ls st σ → zJ G (zmt y).2.2.1 nx0 nxE p l e R s m args below meth c Qm cp nx pc ls st σ)
    (hG : ∀ t cp nx pc ls st σ, F cp nx pc (zseek cd t) ls st σ → zJ G (zmt y).2.2.1 nx0 nxE p l e R s m args below meth c Qm cp nx pc ls st σ)
    (hEnd : ∀ (v : Option zV) (σ1 : zS) (pc1 : Nat) (ls1 : List (Option zV)), Q v σ1 → zrt y v pc1 → zJ G (zmt y).2.2.1 nx0 nxE p l e R s m args below meth c Qm cpE nxE pc1 ls1 v.toList σ1)
    (h : zstep F cd d cpE nxE Q cp nx pc r ls st σ 18 len imm a b tg) : zJ G (zmt y).2.2.1 nx0 nxE p l e R s m args below meth c Qm cp nx pc ls st σ := by
  have hx := hC.1
  have hb := hC.2.1
  have e := zbeq (a := len) (b := 1) hln; subst e
  match st, h with
  | .inl z :: .inl x :: st, h => exact zj_ior hx hb hd (hF _ _ _ _ _ _ h)
set_option maxHeartbeats 400000 in
set_option maxRecDepth 100000 in
theorem zs_19 {G : zG} {d y nx0 nxE : Nat} {p : Program} {l : Launch} {e : Env} {R : Room} {s : State} {m : MethodId} {args : Array Value} {below : List Frame} {meth : Method} {c : Code} {Qm : State → Prop} {cp cpE : Nat → Bool} {nx pc : Nat} {ls : List (Option zV)} {st : List zV} {σ : zS} {Q : zQ} {F : zF} {cd r : List (Nat × zIn)} {len a b idx : Nat} {imm : Int32} {tg : List (Int32 × Nat)}
    (hC : zCx G d y nx0 nxE p R s m args meth c) (hyo : (zmt y).1.cls = zown (zmo y)) (hd : decode (zmt y).2.1 pc = .ok (zdec pc 19 imm a b idx tg, len)) (hl : zlk y 19 imm a b idx tg = true) (hln : (Nat.beq 19 43 || Nat.beq 19 44 || Nat.beq len (zlenL.getD 19 3)) = true)
    (hF : ∀ cp nx pc ls st σ, F cp nx pc r ls st σ → zJ G (zmt y).2.2.1 nx0 nxE p l e R s m args below meth c Qm cp nx pc ls st σ)
    (hG : ∀ t cp nx pc ls st σ, F cp nx pc (zseek cd t) ls st σ → zJ G (zmt y).2.2.1 nx0 nxE p l e R s m args below meth c Qm cp nx pc ls st σ)
    (hEnd : ∀ (v : Option zV) (σ1 : zS) (pc1 : Nat) (ls1 : List (Option zV)), Q v σ1 → zrt y v pc1 → zJ G (zmt y).2.2.1 nx0 nxE p l e R s m args below meth c Qm cpE nxE pc1 ls1 v.toList σ1)
    (h : zstep F cd d cpE nxE Q cp nx pc r ls st σ 19 len imm a b tg) : zJ G (zmt y).2.2.1 nx0 nxE p l e R s m args below meth c Qm cp nx pc ls st σ := by
  have hx := hC.1
  have hb := hC.2.1
  have e := zbeq (a := len) (b := 1) hln; subst e
  match st, h with
  | .inl z :: .inl x :: st, h => exact zj_ishl hx hb hd (hF _ _ _ _ _ _ h)
set_option maxHeartbeats 400000 in
set_option maxRecDepth 100000 in
theorem zs_20 {G : zG} {d y nx0 nxE : Nat} {p : Program} {l : Launch} {e : Env} {R : Room} {s : State} {m : MethodId} {args : Array Value} {below : List Frame} {meth : Method} {c : Code} {Qm : State → Prop} {cp cpE : Nat → Bool} {nx pc : Nat} {ls : List (Option zV)} {st : List zV} {σ : zS} {Q : zQ} {F : zF} {cd r : List (Nat × zIn)} {len a b idx : Nat} {imm : Int32} {tg : List (Int32 × Nat)}
    (hC : zCx G d y nx0 nxE p R s m args meth c) (hyo : (zmt y).1.cls = zown (zmo y)) (hd : decode (zmt y).2.1 pc = .ok (zdec pc 20 imm a b idx tg, len)) (hl : zlk y 20 imm a b idx tg = true) (hln : (Nat.beq 20 43 || Nat.beq 20 44 || Nat.beq len (zlenL.getD 20 3)) = true)
    (hF : ∀ cp nx pc ls st σ, F cp nx pc r ls st σ → zJ G (zmt y).2.2.1 nx0 nxE p l e R s m args below meth c Qm cp nx pc ls st σ)
    (hG : ∀ t cp nx pc ls st σ, F cp nx pc (zseek cd t) ls st σ → zJ G (zmt y).2.2.1 nx0 nxE p l e R s m args below meth c Qm cp nx pc ls st σ)
    (hEnd : ∀ (v : Option zV) (σ1 : zS) (pc1 : Nat) (ls1 : List (Option zV)), Q v σ1 → zrt y v pc1 → zJ G (zmt y).2.2.1 nx0 nxE p l e R s m args below meth c Qm cpE nxE pc1 ls1 v.toList σ1)
    (h : zstep F cd d cpE nxE Q cp nx pc r ls st σ 20 len imm a b tg) : zJ G (zmt y).2.2.1 nx0 nxE p l e R s m args below meth c Qm cp nx pc ls st σ := by
  have hx := hC.1
  have hb := hC.2.1
  have e := zbeq (a := len) (b := 1) hln; subst e
  match st, h with
  | .inl z :: .inl x :: st, h => exact zj_ishr hx hb hd (hF _ _ _ _ _ _ h)
set_option maxHeartbeats 400000 in
set_option maxRecDepth 100000 in
theorem zs_21 {G : zG} {d y nx0 nxE : Nat} {p : Program} {l : Launch} {e : Env} {R : Room} {s : State} {m : MethodId} {args : Array Value} {below : List Frame} {meth : Method} {c : Code} {Qm : State → Prop} {cp cpE : Nat → Bool} {nx pc : Nat} {ls : List (Option zV)} {st : List zV} {σ : zS} {Q : zQ} {F : zF} {cd r : List (Nat × zIn)} {len a b idx : Nat} {imm : Int32} {tg : List (Int32 × Nat)}
    (hC : zCx G d y nx0 nxE p R s m args meth c) (hyo : (zmt y).1.cls = zown (zmo y)) (hd : decode (zmt y).2.1 pc = .ok (zdec pc 21 imm a b idx tg, len)) (hl : zlk y 21 imm a b idx tg = true) (hln : (Nat.beq 21 43 || Nat.beq 21 44 || Nat.beq len (zlenL.getD 21 3)) = true)
    (hF : ∀ cp nx pc ls st σ, F cp nx pc r ls st σ → zJ G (zmt y).2.2.1 nx0 nxE p l e R s m args below meth c Qm cp nx pc ls st σ)
    (hG : ∀ t cp nx pc ls st σ, F cp nx pc (zseek cd t) ls st σ → zJ G (zmt y).2.2.1 nx0 nxE p l e R s m args below meth c Qm cp nx pc ls st σ)
    (hEnd : ∀ (v : Option zV) (σ1 : zS) (pc1 : Nat) (ls1 : List (Option zV)), Q v σ1 → zrt y v pc1 → zJ G (zmt y).2.2.1 nx0 nxE p l e R s m args below meth c Qm cpE nxE pc1 ls1 v.toList σ1)
    (h : zstep F cd d cpE nxE Q cp nx pc r ls st σ 21 len imm a b tg) : zJ G (zmt y).2.2.1 nx0 nxE p l e R s m args below meth c Qm cp nx pc ls st σ := by
  have hx := hC.1
  have hb := hC.2.1
  have e := zbeq (a := len) (b := 1) hln; subst e
  match st, h with
  | .inl z :: .inl x :: st, h => exact zj_iushr hx hb hd (hF _ _ _ _ _ _ h)
set_option maxHeartbeats 400000 in
set_option maxRecDepth 100000 in
theorem zs_22 {G : zG} {d y nx0 nxE : Nat} {p : Program} {l : Launch} {e : Env} {R : Room} {s : State} {m : MethodId} {args : Array Value} {below : List Frame} {meth : Method} {c : Code} {Qm : State → Prop} {cp cpE : Nat → Bool} {nx pc : Nat} {ls : List (Option zV)} {st : List zV} {σ : zS} {Q : zQ} {F : zF} {cd r : List (Nat × zIn)} {len a b idx : Nat} {imm : Int32} {tg : List (Int32 × Nat)}
    (hC : zCx G d y nx0 nxE p R s m args meth c) (hyo : (zmt y).1.cls = zown (zmo y)) (hd : decode (zmt y).2.1 pc = .ok (zdec pc 22 imm a b idx tg, len)) (hl : zlk y 22 imm a b idx tg = true) (hln : (Nat.beq 22 43 || Nat.beq 22 44 || Nat.beq len (zlenL.getD 22 3)) = true)
    (hF : ∀ cp nx pc ls st σ, F cp nx pc r ls st σ → zJ G (zmt y).2.2.1 nx0 nxE p l e R s m args below meth c Qm cp nx pc ls st σ)
    (hG : ∀ t cp nx pc ls st σ, F cp nx pc (zseek cd t) ls st σ → zJ G (zmt y).2.2.1 nx0 nxE p l e R s m args below meth c Qm cp nx pc ls st σ)
    (hEnd : ∀ (v : Option zV) (σ1 : zS) (pc1 : Nat) (ls1 : List (Option zV)), Q v σ1 → zrt y v pc1 → zJ G (zmt y).2.2.1 nx0 nxE p l e R s m args below meth c Qm cpE nxE pc1 ls1 v.toList σ1)
    (h : zstep F cd d cpE nxE Q cp nx pc r ls st σ 22 len imm a b tg) : zJ G (zmt y).2.2.1 nx0 nxE p l e R s m args below meth c Qm cp nx pc ls st σ := by
  have hx := hC.1
  have hb := hC.2.1
  have e := zbeq (a := len) (b := 1) hln; subst e
  match st, h with
  | .inl z :: .inl x :: st, h => exact zj_idiv hx hb h.1 hd (hF _ _ _ _ _ _ h.2)
set_option maxHeartbeats 400000 in
set_option maxRecDepth 100000 in
theorem zs_23 {G : zG} {d y nx0 nxE : Nat} {p : Program} {l : Launch} {e : Env} {R : Room} {s : State} {m : MethodId} {args : Array Value} {below : List Frame} {meth : Method} {c : Code} {Qm : State → Prop} {cp cpE : Nat → Bool} {nx pc : Nat} {ls : List (Option zV)} {st : List zV} {σ : zS} {Q : zQ} {F : zF} {cd r : List (Nat × zIn)} {len a b idx : Nat} {imm : Int32} {tg : List (Int32 × Nat)}
    (hC : zCx G d y nx0 nxE p R s m args meth c) (hyo : (zmt y).1.cls = zown (zmo y)) (hd : decode (zmt y).2.1 pc = .ok (zdec pc 23 imm a b idx tg, len)) (hl : zlk y 23 imm a b idx tg = true) (hln : (Nat.beq 23 43 || Nat.beq 23 44 || Nat.beq len (zlenL.getD 23 3)) = true)
    (hF : ∀ cp nx pc ls st σ, F cp nx pc r ls st σ → zJ G (zmt y).2.2.1 nx0 nxE p l e R s m args below meth c Qm cp nx pc ls st σ)
    (hG : ∀ t cp nx pc ls st σ, F cp nx pc (zseek cd t) ls st σ → zJ G (zmt y).2.2.1 nx0 nxE p l e R s m args below meth c Qm cp nx pc ls st σ)
    (hEnd : ∀ (v : Option zV) (σ1 : zS) (pc1 : Nat) (ls1 : List (Option zV)), Q v σ1 → zrt y v pc1 → zJ G (zmt y).2.2.1 nx0 nxE p l e R s m args below meth c Qm cpE nxE pc1 ls1 v.toList σ1)
    (h : zstep F cd d cpE nxE Q cp nx pc r ls st σ 23 len imm a b tg) : zJ G (zmt y).2.2.1 nx0 nxE p l e R s m args below meth c Qm cp nx pc ls st σ := by
  have hx := hC.1
  have hb := hC.2.1
  have e := zbeq (a := len) (b := 1) hln; subst e
  match st, h with
  | .inl z :: .inl x :: st, h => exact zj_irem hx hb h.1 hd (hF _ _ _ _ _ _ h.2)
set_option maxHeartbeats 400000 in
set_option maxRecDepth 100000 in
theorem zs_24 {G : zG} {d y nx0 nxE : Nat} {p : Program} {l : Launch} {e : Env} {R : Room} {s : State} {m : MethodId} {args : Array Value} {below : List Frame} {meth : Method} {c : Code} {Qm : State → Prop} {cp cpE : Nat → Bool} {nx pc : Nat} {ls : List (Option zV)} {st : List zV} {σ : zS} {Q : zQ} {F : zF} {cd r : List (Nat × zIn)} {len a b idx : Nat} {imm : Int32} {tg : List (Int32 × Nat)}
    (hC : zCx G d y nx0 nxE p R s m args meth c) (hyo : (zmt y).1.cls = zown (zmo y)) (hd : decode (zmt y).2.1 pc = .ok (zdec pc 24 imm a b idx tg, len)) (hl : zlk y 24 imm a b idx tg = true) (hln : (Nat.beq 24 43 || Nat.beq 24 44 || Nat.beq len (zlenL.getD 24 3)) = true)
    (hF : ∀ cp nx pc ls st σ, F cp nx pc r ls st σ → zJ G (zmt y).2.2.1 nx0 nxE p l e R s m args below meth c Qm cp nx pc ls st σ)
    (hG : ∀ t cp nx pc ls st σ, F cp nx pc (zseek cd t) ls st σ → zJ G (zmt y).2.2.1 nx0 nxE p l e R s m args below meth c Qm cp nx pc ls st σ)
    (hEnd : ∀ (v : Option zV) (σ1 : zS) (pc1 : Nat) (ls1 : List (Option zV)), Q v σ1 → zrt y v pc1 → zJ G (zmt y).2.2.1 nx0 nxE p l e R s m args below meth c Qm cpE nxE pc1 ls1 v.toList σ1)
    (h : zstep F cd d cpE nxE Q cp nx pc r ls st σ 24 len imm a b tg) : zJ G (zmt y).2.2.1 nx0 nxE p l e R s m args below meth c Qm cp nx pc ls st σ := by
  have hx := hC.1
  have hb := hC.2.1
  have e := zbeq (a := len) (b := 1) hln; subst e
  match st, h with
  | .inl x :: st, h => exact zj_ineg hx hb hd (hF _ _ _ _ _ _ h)
set_option maxHeartbeats 400000 in
set_option maxRecDepth 100000 in
theorem zs_25 {G : zG} {d y nx0 nxE : Nat} {p : Program} {l : Launch} {e : Env} {R : Room} {s : State} {m : MethodId} {args : Array Value} {below : List Frame} {meth : Method} {c : Code} {Qm : State → Prop} {cp cpE : Nat → Bool} {nx pc : Nat} {ls : List (Option zV)} {st : List zV} {σ : zS} {Q : zQ} {F : zF} {cd r : List (Nat × zIn)} {len a b idx : Nat} {imm : Int32} {tg : List (Int32 × Nat)}
    (hC : zCx G d y nx0 nxE p R s m args meth c) (hyo : (zmt y).1.cls = zown (zmo y)) (hd : decode (zmt y).2.1 pc = .ok (zdec pc 25 imm a b idx tg, len)) (hl : zlk y 25 imm a b idx tg = true) (hln : (Nat.beq 25 43 || Nat.beq 25 44 || Nat.beq len (zlenL.getD 25 3)) = true)
    (hF : ∀ cp nx pc ls st σ, F cp nx pc r ls st σ → zJ G (zmt y).2.2.1 nx0 nxE p l e R s m args below meth c Qm cp nx pc ls st σ)
    (hG : ∀ t cp nx pc ls st σ, F cp nx pc (zseek cd t) ls st σ → zJ G (zmt y).2.2.1 nx0 nxE p l e R s m args below meth c Qm cp nx pc ls st σ)
    (hEnd : ∀ (v : Option zV) (σ1 : zS) (pc1 : Nat) (ls1 : List (Option zV)), Q v σ1 → zrt y v pc1 → zJ G (zmt y).2.2.1 nx0 nxE p l e R s m args below meth c Qm cpE nxE pc1 ls1 v.toList σ1)
    (h : zstep F cd d cpE nxE Q cp nx pc r ls st σ 25 len imm a b tg) : zJ G (zmt y).2.2.1 nx0 nxE p l e R s m args below meth c Qm cp nx pc ls st σ := by
  have hx := hC.1
  have hb := hC.2.1
  have e := zbeq (a := len) (b := 1) hln; subst e
  match st, h with
  | .inl x :: st, h => exact zj_i2b hx hb hd (hF _ _ _ _ _ _ h)
set_option maxHeartbeats 400000 in
set_option maxRecDepth 100000 in
theorem zs_26 {G : zG} {d y nx0 nxE : Nat} {p : Program} {l : Launch} {e : Env} {R : Room} {s : State} {m : MethodId} {args : Array Value} {below : List Frame} {meth : Method} {c : Code} {Qm : State → Prop} {cp cpE : Nat → Bool} {nx pc : Nat} {ls : List (Option zV)} {st : List zV} {σ : zS} {Q : zQ} {F : zF} {cd r : List (Nat × zIn)} {len a b idx : Nat} {imm : Int32} {tg : List (Int32 × Nat)}
    (hC : zCx G d y nx0 nxE p R s m args meth c) (hyo : (zmt y).1.cls = zown (zmo y)) (hd : decode (zmt y).2.1 pc = .ok (zdec pc 26 imm a b idx tg, len)) (hl : zlk y 26 imm a b idx tg = true) (hln : (Nat.beq 26 43 || Nat.beq 26 44 || Nat.beq len (zlenL.getD 26 3)) = true)
    (hF : ∀ cp nx pc ls st σ, F cp nx pc r ls st σ → zJ G (zmt y).2.2.1 nx0 nxE p l e R s m args below meth c Qm cp nx pc ls st σ)
    (hG : ∀ t cp nx pc ls st σ, F cp nx pc (zseek cd t) ls st σ → zJ G (zmt y).2.2.1 nx0 nxE p l e R s m args below meth c Qm cp nx pc ls st σ)
    (hEnd : ∀ (v : Option zV) (σ1 : zS) (pc1 : Nat) (ls1 : List (Option zV)), Q v σ1 → zrt y v pc1 → zJ G (zmt y).2.2.1 nx0 nxE p l e R s m args below meth c Qm cpE nxE pc1 ls1 v.toList σ1)
    (h : zstep F cd d cpE nxE Q cp nx pc r ls st σ 26 len imm a b tg) : zJ G (zmt y).2.2.1 nx0 nxE p l e R s m args below meth c Qm cp nx pc ls st σ := by
  have hx := hC.1
  have hb := hC.2.1
  have e := zbeq (a := len) (b := 1) hln; subst e
  match st, h with
  | .inl x :: st, h => exact zj_i2c hx hb hd (hF _ _ _ _ _ _ h)
set_option maxHeartbeats 400000 in
set_option maxRecDepth 100000 in
theorem zs_27 {G : zG} {d y nx0 nxE : Nat} {p : Program} {l : Launch} {e : Env} {R : Room} {s : State} {m : MethodId} {args : Array Value} {below : List Frame} {meth : Method} {c : Code} {Qm : State → Prop} {cp cpE : Nat → Bool} {nx pc : Nat} {ls : List (Option zV)} {st : List zV} {σ : zS} {Q : zQ} {F : zF} {cd r : List (Nat × zIn)} {len a b idx : Nat} {imm : Int32} {tg : List (Int32 × Nat)}
    (hC : zCx G d y nx0 nxE p R s m args meth c) (hyo : (zmt y).1.cls = zown (zmo y)) (hd : decode (zmt y).2.1 pc = .ok (zdec pc 27 imm a b idx tg, len)) (hl : zlk y 27 imm a b idx tg = true) (hln : (Nat.beq 27 43 || Nat.beq 27 44 || Nat.beq len (zlenL.getD 27 3)) = true)
    (hF : ∀ cp nx pc ls st σ, F cp nx pc r ls st σ → zJ G (zmt y).2.2.1 nx0 nxE p l e R s m args below meth c Qm cp nx pc ls st σ)
    (hG : ∀ t cp nx pc ls st σ, F cp nx pc (zseek cd t) ls st σ → zJ G (zmt y).2.2.1 nx0 nxE p l e R s m args below meth c Qm cp nx pc ls st σ)
    (hEnd : ∀ (v : Option zV) (σ1 : zS) (pc1 : Nat) (ls1 : List (Option zV)), Q v σ1 → zrt y v pc1 → zJ G (zmt y).2.2.1 nx0 nxE p l e R s m args below meth c Qm cpE nxE pc1 ls1 v.toList σ1)
    (h : zstep F cd d cpE nxE Q cp nx pc r ls st σ 27 len imm a b tg) : zJ G (zmt y).2.2.1 nx0 nxE p l e R s m args below meth c Qm cp nx pc ls st σ := by
  have hx := hC.1
  have hb := hC.2.1
  have e := zbeq (a := len) (b := 1) hln; subst e
  match st, h with
  | v :: st, h => exact zj_dup hx hb hd (hF _ _ _ _ _ _ h)
set_option maxHeartbeats 400000 in
set_option maxRecDepth 100000 in
theorem zs_28 {G : zG} {d y nx0 nxE : Nat} {p : Program} {l : Launch} {e : Env} {R : Room} {s : State} {m : MethodId} {args : Array Value} {below : List Frame} {meth : Method} {c : Code} {Qm : State → Prop} {cp cpE : Nat → Bool} {nx pc : Nat} {ls : List (Option zV)} {st : List zV} {σ : zS} {Q : zQ} {F : zF} {cd r : List (Nat × zIn)} {len a b idx : Nat} {imm : Int32} {tg : List (Int32 × Nat)}
    (hC : zCx G d y nx0 nxE p R s m args meth c) (hyo : (zmt y).1.cls = zown (zmo y)) (hd : decode (zmt y).2.1 pc = .ok (zdec pc 28 imm a b idx tg, len)) (hl : zlk y 28 imm a b idx tg = true) (hln : (Nat.beq 28 43 || Nat.beq 28 44 || Nat.beq len (zlenL.getD 28 3)) = true)
    (hF : ∀ cp nx pc ls st σ, F cp nx pc r ls st σ → zJ G (zmt y).2.2.1 nx0 nxE p l e R s m args below meth c Qm cp nx pc ls st σ)
    (hG : ∀ t cp nx pc ls st σ, F cp nx pc (zseek cd t) ls st σ → zJ G (zmt y).2.2.1 nx0 nxE p l e R s m args below meth c Qm cp nx pc ls st σ)
    (hEnd : ∀ (v : Option zV) (σ1 : zS) (pc1 : Nat) (ls1 : List (Option zV)), Q v σ1 → zrt y v pc1 → zJ G (zmt y).2.2.1 nx0 nxE p l e R s m args below meth c Qm cpE nxE pc1 ls1 v.toList σ1)
    (h : zstep F cd d cpE nxE Q cp nx pc r ls st σ 28 len imm a b tg) : zJ G (zmt y).2.2.1 nx0 nxE p l e R s m args below meth c Qm cp nx pc ls st σ := by
  have hx := hC.1
  have hb := hC.2.1
  have e := zbeq (a := len) (b := 1) hln; subst e
  match st, h with
  | v :: w :: st, h => exact zj_dup2 hx hb hd (hF _ _ _ _ _ _ h)
set_option maxHeartbeats 400000 in
set_option maxRecDepth 100000 in
theorem zs_29 {G : zG} {d y nx0 nxE : Nat} {p : Program} {l : Launch} {e : Env} {R : Room} {s : State} {m : MethodId} {args : Array Value} {below : List Frame} {meth : Method} {c : Code} {Qm : State → Prop} {cp cpE : Nat → Bool} {nx pc : Nat} {ls : List (Option zV)} {st : List zV} {σ : zS} {Q : zQ} {F : zF} {cd r : List (Nat × zIn)} {len a b idx : Nat} {imm : Int32} {tg : List (Int32 × Nat)}
    (hC : zCx G d y nx0 nxE p R s m args meth c) (hyo : (zmt y).1.cls = zown (zmo y)) (hd : decode (zmt y).2.1 pc = .ok (zdec pc 29 imm a b idx tg, len)) (hl : zlk y 29 imm a b idx tg = true) (hln : (Nat.beq 29 43 || Nat.beq 29 44 || Nat.beq len (zlenL.getD 29 3)) = true)
    (hF : ∀ cp nx pc ls st σ, F cp nx pc r ls st σ → zJ G (zmt y).2.2.1 nx0 nxE p l e R s m args below meth c Qm cp nx pc ls st σ)
    (hG : ∀ t cp nx pc ls st σ, F cp nx pc (zseek cd t) ls st σ → zJ G (zmt y).2.2.1 nx0 nxE p l e R s m args below meth c Qm cp nx pc ls st σ)
    (hEnd : ∀ (v : Option zV) (σ1 : zS) (pc1 : Nat) (ls1 : List (Option zV)), Q v σ1 → zrt y v pc1 → zJ G (zmt y).2.2.1 nx0 nxE p l e R s m args below meth c Qm cpE nxE pc1 ls1 v.toList σ1)
    (h : zstep F cd d cpE nxE Q cp nx pc r ls st σ 29 len imm a b tg) : zJ G (zmt y).2.2.1 nx0 nxE p l e R s m args below meth c Qm cp nx pc ls st σ := by
  have hx := hC.1
  have hb := hC.2.1
  have e := zbeq (a := len) (b := 1) hln; subst e
  match st, h with
  | v :: st, h => exact zj_pop hx hb hd (hF _ _ _ _ _ _ h)
set_option maxHeartbeats 400000 in
set_option maxRecDepth 100000 in
theorem zs_30 {G : zG} {d y nx0 nxE : Nat} {p : Program} {l : Launch} {e : Env} {R : Room} {s : State} {m : MethodId} {args : Array Value} {below : List Frame} {meth : Method} {c : Code} {Qm : State → Prop} {cp cpE : Nat → Bool} {nx pc : Nat} {ls : List (Option zV)} {st : List zV} {σ : zS} {Q : zQ} {F : zF} {cd r : List (Nat × zIn)} {len a b idx : Nat} {imm : Int32} {tg : List (Int32 × Nat)}
    (hC : zCx G d y nx0 nxE p R s m args meth c) (hyo : (zmt y).1.cls = zown (zmo y)) (hd : decode (zmt y).2.1 pc = .ok (zdec pc 30 imm a b idx tg, len)) (hl : zlk y 30 imm a b idx tg = true) (hln : (Nat.beq 30 43 || Nat.beq 30 44 || Nat.beq len (zlenL.getD 30 3)) = true)
    (hF : ∀ cp nx pc ls st σ, F cp nx pc r ls st σ → zJ G (zmt y).2.2.1 nx0 nxE p l e R s m args below meth c Qm cp nx pc ls st σ)
    (hG : ∀ t cp nx pc ls st σ, F cp nx pc (zseek cd t) ls st σ → zJ G (zmt y).2.2.1 nx0 nxE p l e R s m args below meth c Qm cp nx pc ls st σ)
    (hEnd : ∀ (v : Option zV) (σ1 : zS) (pc1 : Nat) (ls1 : List (Option zV)), Q v σ1 → zrt y v pc1 → zJ G (zmt y).2.2.1 nx0 nxE p l e R s m args below meth c Qm cpE nxE pc1 ls1 v.toList σ1)
    (h : zstep F cd d cpE nxE Q cp nx pc r ls st σ 30 len imm a b tg) : zJ G (zmt y).2.2.1 nx0 nxE p l e R s m args below meth c Qm cp nx pc ls st σ := by
  have hx := hC.1
  have hb := hC.2.1
  have e := zbeq (a := len) (b := 3) hln; subst e
  match st, h with
  | .inl x :: st, h => exact zj_if_eq hx hb hd (fun q => hG _ _ _ _ _ _ _ (h.1 q)) (fun q => hF _ _ _ _ _ _ (h.2 q))
set_option maxHeartbeats 400000 in
set_option maxRecDepth 100000 in
theorem zs_31 {G : zG} {d y nx0 nxE : Nat} {p : Program} {l : Launch} {e : Env} {R : Room} {s : State} {m : MethodId} {args : Array Value} {below : List Frame} {meth : Method} {c : Code} {Qm : State → Prop} {cp cpE : Nat → Bool} {nx pc : Nat} {ls : List (Option zV)} {st : List zV} {σ : zS} {Q : zQ} {F : zF} {cd r : List (Nat × zIn)} {len a b idx : Nat} {imm : Int32} {tg : List (Int32 × Nat)}
    (hC : zCx G d y nx0 nxE p R s m args meth c) (hyo : (zmt y).1.cls = zown (zmo y)) (hd : decode (zmt y).2.1 pc = .ok (zdec pc 31 imm a b idx tg, len)) (hl : zlk y 31 imm a b idx tg = true) (hln : (Nat.beq 31 43 || Nat.beq 31 44 || Nat.beq len (zlenL.getD 31 3)) = true)
    (hF : ∀ cp nx pc ls st σ, F cp nx pc r ls st σ → zJ G (zmt y).2.2.1 nx0 nxE p l e R s m args below meth c Qm cp nx pc ls st σ)
    (hG : ∀ t cp nx pc ls st σ, F cp nx pc (zseek cd t) ls st σ → zJ G (zmt y).2.2.1 nx0 nxE p l e R s m args below meth c Qm cp nx pc ls st σ)
    (hEnd : ∀ (v : Option zV) (σ1 : zS) (pc1 : Nat) (ls1 : List (Option zV)), Q v σ1 → zrt y v pc1 → zJ G (zmt y).2.2.1 nx0 nxE p l e R s m args below meth c Qm cpE nxE pc1 ls1 v.toList σ1)
    (h : zstep F cd d cpE nxE Q cp nx pc r ls st σ 31 len imm a b tg) : zJ G (zmt y).2.2.1 nx0 nxE p l e R s m args below meth c Qm cp nx pc ls st σ := by
  have hx := hC.1
  have hb := hC.2.1
  have e := zbeq (a := len) (b := 3) hln; subst e
  match st, h with
  | .inl x :: st, h => exact zj_if_ne hx hb hd (fun q => hG _ _ _ _ _ _ _ (h.1 q)) (fun q => hF _ _ _ _ _ _ (h.2 q))
set_option maxHeartbeats 400000 in
set_option maxRecDepth 100000 in
theorem zs_32 {G : zG} {d y nx0 nxE : Nat} {p : Program} {l : Launch} {e : Env} {R : Room} {s : State} {m : MethodId} {args : Array Value} {below : List Frame} {meth : Method} {c : Code} {Qm : State → Prop} {cp cpE : Nat → Bool} {nx pc : Nat} {ls : List (Option zV)} {st : List zV} {σ : zS} {Q : zQ} {F : zF} {cd r : List (Nat × zIn)} {len a b idx : Nat} {imm : Int32} {tg : List (Int32 × Nat)}
    (hC : zCx G d y nx0 nxE p R s m args meth c) (hyo : (zmt y).1.cls = zown (zmo y)) (hd : decode (zmt y).2.1 pc = .ok (zdec pc 32 imm a b idx tg, len)) (hl : zlk y 32 imm a b idx tg = true) (hln : (Nat.beq 32 43 || Nat.beq 32 44 || Nat.beq len (zlenL.getD 32 3)) = true)
    (hF : ∀ cp nx pc ls st σ, F cp nx pc r ls st σ → zJ G (zmt y).2.2.1 nx0 nxE p l e R s m args below meth c Qm cp nx pc ls st σ)
    (hG : ∀ t cp nx pc ls st σ, F cp nx pc (zseek cd t) ls st σ → zJ G (zmt y).2.2.1 nx0 nxE p l e R s m args below meth c Qm cp nx pc ls st σ)
    (hEnd : ∀ (v : Option zV) (σ1 : zS) (pc1 : Nat) (ls1 : List (Option zV)), Q v σ1 → zrt y v pc1 → zJ G (zmt y).2.2.1 nx0 nxE p l e R s m args below meth c Qm cpE nxE pc1 ls1 v.toList σ1)
    (h : zstep F cd d cpE nxE Q cp nx pc r ls st σ 32 len imm a b tg) : zJ G (zmt y).2.2.1 nx0 nxE p l e R s m args below meth c Qm cp nx pc ls st σ := by
  have hx := hC.1
  have hb := hC.2.1
  have e := zbeq (a := len) (b := 3) hln; subst e
  match st, h with
  | .inl x :: st, h => exact zj_if_lt hx hb hd (fun q => hG _ _ _ _ _ _ _ (h.1 q)) (fun q => hF _ _ _ _ _ _ (h.2 q))
set_option maxHeartbeats 400000 in
set_option maxRecDepth 100000 in
theorem zs_33 {G : zG} {d y nx0 nxE : Nat} {p : Program} {l : Launch} {e : Env} {R : Room} {s : State} {m : MethodId} {args : Array Value} {below : List Frame} {meth : Method} {c : Code} {Qm : State → Prop} {cp cpE : Nat → Bool} {nx pc : Nat} {ls : List (Option zV)} {st : List zV} {σ : zS} {Q : zQ} {F : zF} {cd r : List (Nat × zIn)} {len a b idx : Nat} {imm : Int32} {tg : List (Int32 × Nat)}
    (hC : zCx G d y nx0 nxE p R s m args meth c) (hyo : (zmt y).1.cls = zown (zmo y)) (hd : decode (zmt y).2.1 pc = .ok (zdec pc 33 imm a b idx tg, len)) (hl : zlk y 33 imm a b idx tg = true) (hln : (Nat.beq 33 43 || Nat.beq 33 44 || Nat.beq len (zlenL.getD 33 3)) = true)
    (hF : ∀ cp nx pc ls st σ, F cp nx pc r ls st σ → zJ G (zmt y).2.2.1 nx0 nxE p l e R s m args below meth c Qm cp nx pc ls st σ)
    (hG : ∀ t cp nx pc ls st σ, F cp nx pc (zseek cd t) ls st σ → zJ G (zmt y).2.2.1 nx0 nxE p l e R s m args below meth c Qm cp nx pc ls st σ)
    (hEnd : ∀ (v : Option zV) (σ1 : zS) (pc1 : Nat) (ls1 : List (Option zV)), Q v σ1 → zrt y v pc1 → zJ G (zmt y).2.2.1 nx0 nxE p l e R s m args below meth c Qm cpE nxE pc1 ls1 v.toList σ1)
    (h : zstep F cd d cpE nxE Q cp nx pc r ls st σ 33 len imm a b tg) : zJ G (zmt y).2.2.1 nx0 nxE p l e R s m args below meth c Qm cp nx pc ls st σ := by
  have hx := hC.1
  have hb := hC.2.1
  have e := zbeq (a := len) (b := 3) hln; subst e
  match st, h with
  | .inl x :: st, h => exact zj_if_ge hx hb hd (fun q => hG _ _ _ _ _ _ _ (h.1 q)) (fun q => hF _ _ _ _ _ _ (h.2 q))
set_option maxHeartbeats 400000 in
set_option maxRecDepth 100000 in
theorem zs_34 {G : zG} {d y nx0 nxE : Nat} {p : Program} {l : Launch} {e : Env} {R : Room} {s : State} {m : MethodId} {args : Array Value} {below : List Frame} {meth : Method} {c : Code} {Qm : State → Prop} {cp cpE : Nat → Bool} {nx pc : Nat} {ls : List (Option zV)} {st : List zV} {σ : zS} {Q : zQ} {F : zF} {cd r : List (Nat × zIn)} {len a b idx : Nat} {imm : Int32} {tg : List (Int32 × Nat)}
    (hC : zCx G d y nx0 nxE p R s m args meth c) (hyo : (zmt y).1.cls = zown (zmo y)) (hd : decode (zmt y).2.1 pc = .ok (zdec pc 34 imm a b idx tg, len)) (hl : zlk y 34 imm a b idx tg = true) (hln : (Nat.beq 34 43 || Nat.beq 34 44 || Nat.beq len (zlenL.getD 34 3)) = true)
    (hF : ∀ cp nx pc ls st σ, F cp nx pc r ls st σ → zJ G (zmt y).2.2.1 nx0 nxE p l e R s m args below meth c Qm cp nx pc ls st σ)
    (hG : ∀ t cp nx pc ls st σ, F cp nx pc (zseek cd t) ls st σ → zJ G (zmt y).2.2.1 nx0 nxE p l e R s m args below meth c Qm cp nx pc ls st σ)
    (hEnd : ∀ (v : Option zV) (σ1 : zS) (pc1 : Nat) (ls1 : List (Option zV)), Q v σ1 → zrt y v pc1 → zJ G (zmt y).2.2.1 nx0 nxE p l e R s m args below meth c Qm cpE nxE pc1 ls1 v.toList σ1)
    (h : zstep F cd d cpE nxE Q cp nx pc r ls st σ 34 len imm a b tg) : zJ G (zmt y).2.2.1 nx0 nxE p l e R s m args below meth c Qm cp nx pc ls st σ := by
  have hx := hC.1
  have hb := hC.2.1
  have e := zbeq (a := len) (b := 3) hln; subst e
  match st, h with
  | .inl x :: st, h => exact zj_if_gt hx hb hd (fun q => hG _ _ _ _ _ _ _ (h.1 q)) (fun q => hF _ _ _ _ _ _ (h.2 q))
set_option maxHeartbeats 400000 in
set_option maxRecDepth 100000 in
theorem zs_35 {G : zG} {d y nx0 nxE : Nat} {p : Program} {l : Launch} {e : Env} {R : Room} {s : State} {m : MethodId} {args : Array Value} {below : List Frame} {meth : Method} {c : Code} {Qm : State → Prop} {cp cpE : Nat → Bool} {nx pc : Nat} {ls : List (Option zV)} {st : List zV} {σ : zS} {Q : zQ} {F : zF} {cd r : List (Nat × zIn)} {len a b idx : Nat} {imm : Int32} {tg : List (Int32 × Nat)}
    (hC : zCx G d y nx0 nxE p R s m args meth c) (hyo : (zmt y).1.cls = zown (zmo y)) (hd : decode (zmt y).2.1 pc = .ok (zdec pc 35 imm a b idx tg, len)) (hl : zlk y 35 imm a b idx tg = true) (hln : (Nat.beq 35 43 || Nat.beq 35 44 || Nat.beq len (zlenL.getD 35 3)) = true)
    (hF : ∀ cp nx pc ls st σ, F cp nx pc r ls st σ → zJ G (zmt y).2.2.1 nx0 nxE p l e R s m args below meth c Qm cp nx pc ls st σ)
    (hG : ∀ t cp nx pc ls st σ, F cp nx pc (zseek cd t) ls st σ → zJ G (zmt y).2.2.1 nx0 nxE p l e R s m args below meth c Qm cp nx pc ls st σ)
    (hEnd : ∀ (v : Option zV) (σ1 : zS) (pc1 : Nat) (ls1 : List (Option zV)), Q v σ1 → zrt y v pc1 → zJ G (zmt y).2.2.1 nx0 nxE p l e R s m args below meth c Qm cpE nxE pc1 ls1 v.toList σ1)
    (h : zstep F cd d cpE nxE Q cp nx pc r ls st σ 35 len imm a b tg) : zJ G (zmt y).2.2.1 nx0 nxE p l e R s m args below meth c Qm cp nx pc ls st σ := by
  have hx := hC.1
  have hb := hC.2.1
  have e := zbeq (a := len) (b := 3) hln; subst e
  match st, h with
  | .inl x :: st, h => exact zj_if_le hx hb hd (fun q => hG _ _ _ _ _ _ _ (h.1 q)) (fun q => hF _ _ _ _ _ _ (h.2 q))
set_option maxHeartbeats 400000 in
set_option maxRecDepth 100000 in
theorem zs_36 {G : zG} {d y nx0 nxE : Nat} {p : Program} {l : Launch} {e : Env} {R : Room} {s : State} {m : MethodId} {args : Array Value} {below : List Frame} {meth : Method} {c : Code} {Qm : State → Prop} {cp cpE : Nat → Bool} {nx pc : Nat} {ls : List (Option zV)} {st : List zV} {σ : zS} {Q : zQ} {F : zF} {cd r : List (Nat × zIn)} {len a b idx : Nat} {imm : Int32} {tg : List (Int32 × Nat)}
    (hC : zCx G d y nx0 nxE p R s m args meth c) (hyo : (zmt y).1.cls = zown (zmo y)) (hd : decode (zmt y).2.1 pc = .ok (zdec pc 36 imm a b idx tg, len)) (hl : zlk y 36 imm a b idx tg = true) (hln : (Nat.beq 36 43 || Nat.beq 36 44 || Nat.beq len (zlenL.getD 36 3)) = true)
    (hF : ∀ cp nx pc ls st σ, F cp nx pc r ls st σ → zJ G (zmt y).2.2.1 nx0 nxE p l e R s m args below meth c Qm cp nx pc ls st σ)
    (hG : ∀ t cp nx pc ls st σ, F cp nx pc (zseek cd t) ls st σ → zJ G (zmt y).2.2.1 nx0 nxE p l e R s m args below meth c Qm cp nx pc ls st σ)
    (hEnd : ∀ (v : Option zV) (σ1 : zS) (pc1 : Nat) (ls1 : List (Option zV)), Q v σ1 → zrt y v pc1 → zJ G (zmt y).2.2.1 nx0 nxE p l e R s m args below meth c Qm cpE nxE pc1 ls1 v.toList σ1)
    (h : zstep F cd d cpE nxE Q cp nx pc r ls st σ 36 len imm a b tg) : zJ G (zmt y).2.2.1 nx0 nxE p l e R s m args below meth c Qm cp nx pc ls st σ := by
  have hx := hC.1
  have hb := hC.2.1
  have e := zbeq (a := len) (b := 3) hln; subst e
  match st, h with
  | .inl z :: .inl x :: st, h => exact zj_icmp_eq hx hb hd (fun q => hG _ _ _ _ _ _ _ (h.1 q)) (fun q => hF _ _ _ _ _ _ (h.2 q))
set_option maxHeartbeats 400000 in
set_option maxRecDepth 100000 in
theorem zs_37 {G : zG} {d y nx0 nxE : Nat} {p : Program} {l : Launch} {e : Env} {R : Room} {s : State} {m : MethodId} {args : Array Value} {below : List Frame} {meth : Method} {c : Code} {Qm : State → Prop} {cp cpE : Nat → Bool} {nx pc : Nat} {ls : List (Option zV)} {st : List zV} {σ : zS} {Q : zQ} {F : zF} {cd r : List (Nat × zIn)} {len a b idx : Nat} {imm : Int32} {tg : List (Int32 × Nat)}
    (hC : zCx G d y nx0 nxE p R s m args meth c) (hyo : (zmt y).1.cls = zown (zmo y)) (hd : decode (zmt y).2.1 pc = .ok (zdec pc 37 imm a b idx tg, len)) (hl : zlk y 37 imm a b idx tg = true) (hln : (Nat.beq 37 43 || Nat.beq 37 44 || Nat.beq len (zlenL.getD 37 3)) = true)
    (hF : ∀ cp nx pc ls st σ, F cp nx pc r ls st σ → zJ G (zmt y).2.2.1 nx0 nxE p l e R s m args below meth c Qm cp nx pc ls st σ)
    (hG : ∀ t cp nx pc ls st σ, F cp nx pc (zseek cd t) ls st σ → zJ G (zmt y).2.2.1 nx0 nxE p l e R s m args below meth c Qm cp nx pc ls st σ)
    (hEnd : ∀ (v : Option zV) (σ1 : zS) (pc1 : Nat) (ls1 : List (Option zV)), Q v σ1 → zrt y v pc1 → zJ G (zmt y).2.2.1 nx0 nxE p l e R s m args below meth c Qm cpE nxE pc1 ls1 v.toList σ1)
    (h : zstep F cd d cpE nxE Q cp nx pc r ls st σ 37 len imm a b tg) : zJ G (zmt y).2.2.1 nx0 nxE p l e R s m args below meth c Qm cp nx pc ls st σ := by
  have hx := hC.1
  have hb := hC.2.1
  have e := zbeq (a := len) (b := 3) hln; subst e
  match st, h with
  | .inl z :: .inl x :: st, h => exact zj_icmp_ne hx hb hd (fun q => hG _ _ _ _ _ _ _ (h.1 q)) (fun q => hF _ _ _ _ _ _ (h.2 q))
set_option maxHeartbeats 400000 in
set_option maxRecDepth 100000 in
theorem zs_38 {G : zG} {d y nx0 nxE : Nat} {p : Program} {l : Launch} {e : Env} {R : Room} {s : State} {m : MethodId} {args : Array Value} {below : List Frame} {meth : Method} {c : Code} {Qm : State → Prop} {cp cpE : Nat → Bool} {nx pc : Nat} {ls : List (Option zV)} {st : List zV} {σ : zS} {Q : zQ} {F : zF} {cd r : List (Nat × zIn)} {len a b idx : Nat} {imm : Int32} {tg : List (Int32 × Nat)}
    (hC : zCx G d y nx0 nxE p R s m args meth c) (hyo : (zmt y).1.cls = zown (zmo y)) (hd : decode (zmt y).2.1 pc = .ok (zdec pc 38 imm a b idx tg, len)) (hl : zlk y 38 imm a b idx tg = true) (hln : (Nat.beq 38 43 || Nat.beq 38 44 || Nat.beq len (zlenL.getD 38 3)) = true)
    (hF : ∀ cp nx pc ls st σ, F cp nx pc r ls st σ → zJ G (zmt y).2.2.1 nx0 nxE p l e R s m args below meth c Qm cp nx pc ls st σ)
    (hG : ∀ t cp nx pc ls st σ, F cp nx pc (zseek cd t) ls st σ → zJ G (zmt y).2.2.1 nx0 nxE p l e R s m args below meth c Qm cp nx pc ls st σ)
    (hEnd : ∀ (v : Option zV) (σ1 : zS) (pc1 : Nat) (ls1 : List (Option zV)), Q v σ1 → zrt y v pc1 → zJ G (zmt y).2.2.1 nx0 nxE p l e R s m args below meth c Qm cpE nxE pc1 ls1 v.toList σ1)
    (h : zstep F cd d cpE nxE Q cp nx pc r ls st σ 38 len imm a b tg) : zJ G (zmt y).2.2.1 nx0 nxE p l e R s m args below meth c Qm cp nx pc ls st σ := by
  have hx := hC.1
  have hb := hC.2.1
  have e := zbeq (a := len) (b := 3) hln; subst e
  match st, h with
  | .inl z :: .inl x :: st, h => exact zj_icmp_lt hx hb hd (fun q => hG _ _ _ _ _ _ _ (h.1 q)) (fun q => hF _ _ _ _ _ _ (h.2 q))
set_option maxHeartbeats 400000 in
set_option maxRecDepth 100000 in
theorem zs_39 {G : zG} {d y nx0 nxE : Nat} {p : Program} {l : Launch} {e : Env} {R : Room} {s : State} {m : MethodId} {args : Array Value} {below : List Frame} {meth : Method} {c : Code} {Qm : State → Prop} {cp cpE : Nat → Bool} {nx pc : Nat} {ls : List (Option zV)} {st : List zV} {σ : zS} {Q : zQ} {F : zF} {cd r : List (Nat × zIn)} {len a b idx : Nat} {imm : Int32} {tg : List (Int32 × Nat)}
    (hC : zCx G d y nx0 nxE p R s m args meth c) (hyo : (zmt y).1.cls = zown (zmo y)) (hd : decode (zmt y).2.1 pc = .ok (zdec pc 39 imm a b idx tg, len)) (hl : zlk y 39 imm a b idx tg = true) (hln : (Nat.beq 39 43 || Nat.beq 39 44 || Nat.beq len (zlenL.getD 39 3)) = true)
    (hF : ∀ cp nx pc ls st σ, F cp nx pc r ls st σ → zJ G (zmt y).2.2.1 nx0 nxE p l e R s m args below meth c Qm cp nx pc ls st σ)
    (hG : ∀ t cp nx pc ls st σ, F cp nx pc (zseek cd t) ls st σ → zJ G (zmt y).2.2.1 nx0 nxE p l e R s m args below meth c Qm cp nx pc ls st σ)
    (hEnd : ∀ (v : Option zV) (σ1 : zS) (pc1 : Nat) (ls1 : List (Option zV)), Q v σ1 → zrt y v pc1 → zJ G (zmt y).2.2.1 nx0 nxE p l e R s m args below meth c Qm cpE nxE pc1 ls1 v.toList σ1)
    (h : zstep F cd d cpE nxE Q cp nx pc r ls st σ 39 len imm a b tg) : zJ G (zmt y).2.2.1 nx0 nxE p l e R s m args below meth c Qm cp nx pc ls st σ := by
  have hx := hC.1
  have hb := hC.2.1
  have e := zbeq (a := len) (b := 3) hln; subst e
  match st, h with
  | .inl z :: .inl x :: st, h => exact zj_icmp_ge hx hb hd (fun q => hG _ _ _ _ _ _ _ (h.1 q)) (fun q => hF _ _ _ _ _ _ (h.2 q))
set_option maxHeartbeats 400000 in
set_option maxRecDepth 100000 in
theorem zs_40 {G : zG} {d y nx0 nxE : Nat} {p : Program} {l : Launch} {e : Env} {R : Room} {s : State} {m : MethodId} {args : Array Value} {below : List Frame} {meth : Method} {c : Code} {Qm : State → Prop} {cp cpE : Nat → Bool} {nx pc : Nat} {ls : List (Option zV)} {st : List zV} {σ : zS} {Q : zQ} {F : zF} {cd r : List (Nat × zIn)} {len a b idx : Nat} {imm : Int32} {tg : List (Int32 × Nat)}
    (hC : zCx G d y nx0 nxE p R s m args meth c) (hyo : (zmt y).1.cls = zown (zmo y)) (hd : decode (zmt y).2.1 pc = .ok (zdec pc 40 imm a b idx tg, len)) (hl : zlk y 40 imm a b idx tg = true) (hln : (Nat.beq 40 43 || Nat.beq 40 44 || Nat.beq len (zlenL.getD 40 3)) = true)
    (hF : ∀ cp nx pc ls st σ, F cp nx pc r ls st σ → zJ G (zmt y).2.2.1 nx0 nxE p l e R s m args below meth c Qm cp nx pc ls st σ)
    (hG : ∀ t cp nx pc ls st σ, F cp nx pc (zseek cd t) ls st σ → zJ G (zmt y).2.2.1 nx0 nxE p l e R s m args below meth c Qm cp nx pc ls st σ)
    (hEnd : ∀ (v : Option zV) (σ1 : zS) (pc1 : Nat) (ls1 : List (Option zV)), Q v σ1 → zrt y v pc1 → zJ G (zmt y).2.2.1 nx0 nxE p l e R s m args below meth c Qm cpE nxE pc1 ls1 v.toList σ1)
    (h : zstep F cd d cpE nxE Q cp nx pc r ls st σ 40 len imm a b tg) : zJ G (zmt y).2.2.1 nx0 nxE p l e R s m args below meth c Qm cp nx pc ls st σ := by
  have hx := hC.1
  have hb := hC.2.1
  have e := zbeq (a := len) (b := 3) hln; subst e
  match st, h with
  | .inl z :: .inl x :: st, h => exact zj_icmp_gt hx hb hd (fun q => hG _ _ _ _ _ _ _ (h.1 q)) (fun q => hF _ _ _ _ _ _ (h.2 q))
set_option maxHeartbeats 400000 in
set_option maxRecDepth 100000 in
theorem zs_41 {G : zG} {d y nx0 nxE : Nat} {p : Program} {l : Launch} {e : Env} {R : Room} {s : State} {m : MethodId} {args : Array Value} {below : List Frame} {meth : Method} {c : Code} {Qm : State → Prop} {cp cpE : Nat → Bool} {nx pc : Nat} {ls : List (Option zV)} {st : List zV} {σ : zS} {Q : zQ} {F : zF} {cd r : List (Nat × zIn)} {len a b idx : Nat} {imm : Int32} {tg : List (Int32 × Nat)}
    (hC : zCx G d y nx0 nxE p R s m args meth c) (hyo : (zmt y).1.cls = zown (zmo y)) (hd : decode (zmt y).2.1 pc = .ok (zdec pc 41 imm a b idx tg, len)) (hl : zlk y 41 imm a b idx tg = true) (hln : (Nat.beq 41 43 || Nat.beq 41 44 || Nat.beq len (zlenL.getD 41 3)) = true)
    (hF : ∀ cp nx pc ls st σ, F cp nx pc r ls st σ → zJ G (zmt y).2.2.1 nx0 nxE p l e R s m args below meth c Qm cp nx pc ls st σ)
    (hG : ∀ t cp nx pc ls st σ, F cp nx pc (zseek cd t) ls st σ → zJ G (zmt y).2.2.1 nx0 nxE p l e R s m args below meth c Qm cp nx pc ls st σ)
    (hEnd : ∀ (v : Option zV) (σ1 : zS) (pc1 : Nat) (ls1 : List (Option zV)), Q v σ1 → zrt y v pc1 → zJ G (zmt y).2.2.1 nx0 nxE p l e R s m args below meth c Qm cpE nxE pc1 ls1 v.toList σ1)
    (h : zstep F cd d cpE nxE Q cp nx pc r ls st σ 41 len imm a b tg) : zJ G (zmt y).2.2.1 nx0 nxE p l e R s m args below meth c Qm cp nx pc ls st σ := by
  have hx := hC.1
  have hb := hC.2.1
  have e := zbeq (a := len) (b := 3) hln; subst e
  match st, h with
  | .inl z :: .inl x :: st, h => exact zj_icmp_le hx hb hd (fun q => hG _ _ _ _ _ _ _ (h.1 q)) (fun q => hF _ _ _ _ _ _ (h.2 q))
set_option maxHeartbeats 400000 in
set_option maxRecDepth 100000 in
theorem zs_42 {G : zG} {d y nx0 nxE : Nat} {p : Program} {l : Launch} {e : Env} {R : Room} {s : State} {m : MethodId} {args : Array Value} {below : List Frame} {meth : Method} {c : Code} {Qm : State → Prop} {cp cpE : Nat → Bool} {nx pc : Nat} {ls : List (Option zV)} {st : List zV} {σ : zS} {Q : zQ} {F : zF} {cd r : List (Nat × zIn)} {len a b idx : Nat} {imm : Int32} {tg : List (Int32 × Nat)}
    (hC : zCx G d y nx0 nxE p R s m args meth c) (hyo : (zmt y).1.cls = zown (zmo y)) (hd : decode (zmt y).2.1 pc = .ok (zdec pc 42 imm a b idx tg, len)) (hl : zlk y 42 imm a b idx tg = true) (hln : (Nat.beq 42 43 || Nat.beq 42 44 || Nat.beq len (zlenL.getD 42 3)) = true)
    (hF : ∀ cp nx pc ls st σ, F cp nx pc r ls st σ → zJ G (zmt y).2.2.1 nx0 nxE p l e R s m args below meth c Qm cp nx pc ls st σ)
    (hG : ∀ t cp nx pc ls st σ, F cp nx pc (zseek cd t) ls st σ → zJ G (zmt y).2.2.1 nx0 nxE p l e R s m args below meth c Qm cp nx pc ls st σ)
    (hEnd : ∀ (v : Option zV) (σ1 : zS) (pc1 : Nat) (ls1 : List (Option zV)), Q v σ1 → zrt y v pc1 → zJ G (zmt y).2.2.1 nx0 nxE p l e R s m args below meth c Qm cpE nxE pc1 ls1 v.toList σ1)
    (h : zstep F cd d cpE nxE Q cp nx pc r ls st σ 42 len imm a b tg) : zJ G (zmt y).2.2.1 nx0 nxE p l e R s m args below meth c Qm cp nx pc ls st σ := by
  have hx := hC.1
  have hb := hC.2.1
  have e := zbeq (a := len) (b := 3) hln; subst e
  exact zj_goto hx hb hd (hG _ _ _ _ _ _ _ h)
set_option maxHeartbeats 400000 in
set_option maxRecDepth 100000 in
theorem zs_43 {G : zG} {d y nx0 nxE : Nat} {p : Program} {l : Launch} {e : Env} {R : Room} {s : State} {m : MethodId} {args : Array Value} {below : List Frame} {meth : Method} {c : Code} {Qm : State → Prop} {cp cpE : Nat → Bool} {nx pc : Nat} {ls : List (Option zV)} {st : List zV} {σ : zS} {Q : zQ} {F : zF} {cd r : List (Nat × zIn)} {len a b idx : Nat} {imm : Int32} {tg : List (Int32 × Nat)}
    (hC : zCx G d y nx0 nxE p R s m args meth c) (hyo : (zmt y).1.cls = zown (zmo y)) (hd : decode (zmt y).2.1 pc = .ok (zdec pc 43 imm a b idx tg, len)) (hl : zlk y 43 imm a b idx tg = true) (hln : (Nat.beq 43 43 || Nat.beq 43 44 || Nat.beq len (zlenL.getD 43 3)) = true)
    (hF : ∀ cp nx pc ls st σ, F cp nx pc r ls st σ → zJ G (zmt y).2.2.1 nx0 nxE p l e R s m args below meth c Qm cp nx pc ls st σ)
    (hG : ∀ t cp nx pc ls st σ, F cp nx pc (zseek cd t) ls st σ → zJ G (zmt y).2.2.1 nx0 nxE p l e R s m args below meth c Qm cp nx pc ls st σ)
    (hEnd : ∀ (v : Option zV) (σ1 : zS) (pc1 : Nat) (ls1 : List (Option zV)), Q v σ1 → zrt y v pc1 → zJ G (zmt y).2.2.1 nx0 nxE p l e R s m args below meth c Qm cpE nxE pc1 ls1 v.toList σ1)
    (h : zstep F cd d cpE nxE Q cp nx pc r ls st σ 43 len imm a b tg) : zJ G (zmt y).2.2.1 nx0 nxE p l e R s m args below meth c Qm cp nx pc ls st σ := by
  have hx := hC.1
  have hb := hC.2.1
  change (!tg.isEmpty && _) = true at hl
  simp only [Bool.and_eq_true, Bool.not_eq_true'] at hl
  match st, h with
  | .inl x :: st, h => exact zj_table hx hb hl.1 hl.2 hd (zsw_mono tg (fun t q => hG t _ _ _ _ _ _ q) h)
set_option maxHeartbeats 400000 in
set_option maxRecDepth 100000 in
theorem zs_44 {G : zG} {d y nx0 nxE : Nat} {p : Program} {l : Launch} {e : Env} {R : Room} {s : State} {m : MethodId} {args : Array Value} {below : List Frame} {meth : Method} {c : Code} {Qm : State → Prop} {cp cpE : Nat → Bool} {nx pc : Nat} {ls : List (Option zV)} {st : List zV} {σ : zS} {Q : zQ} {F : zF} {cd r : List (Nat × zIn)} {len a b idx : Nat} {imm : Int32} {tg : List (Int32 × Nat)}
    (hC : zCx G d y nx0 nxE p R s m args meth c) (hyo : (zmt y).1.cls = zown (zmo y)) (hd : decode (zmt y).2.1 pc = .ok (zdec pc 44 imm a b idx tg, len)) (hl : zlk y 44 imm a b idx tg = true) (hln : (Nat.beq 44 43 || Nat.beq 44 44 || Nat.beq len (zlenL.getD 44 3)) = true)
    (hF : ∀ cp nx pc ls st σ, F cp nx pc r ls st σ → zJ G (zmt y).2.2.1 nx0 nxE p l e R s m args below meth c Qm cp nx pc ls st σ)
    (hG : ∀ t cp nx pc ls st σ, F cp nx pc (zseek cd t) ls st σ → zJ G (zmt y).2.2.1 nx0 nxE p l e R s m args below meth c Qm cp nx pc ls st σ)
    (hEnd : ∀ (v : Option zV) (σ1 : zS) (pc1 : Nat) (ls1 : List (Option zV)), Q v σ1 → zrt y v pc1 → zJ G (zmt y).2.2.1 nx0 nxE p l e R s m args below meth c Qm cpE nxE pc1 ls1 v.toList σ1)
    (h : zstep F cd d cpE nxE Q cp nx pc r ls st σ 44 len imm a b tg) : zJ G (zmt y).2.2.1 nx0 nxE p l e R s m args below meth c Qm cp nx pc ls st σ := by
  have hx := hC.1
  have hb := hC.2.1
  match st, h with
  | .inl x :: st, h => exact zj_lookup hx hb hl hd (zsw_mono tg (fun t q => hG t _ _ _ _ _ _ q) h)
set_option maxHeartbeats 400000 in
set_option maxRecDepth 100000 in
theorem zs_45 {G : zG} {d y nx0 nxE : Nat} {p : Program} {l : Launch} {e : Env} {R : Room} {s : State} {m : MethodId} {args : Array Value} {below : List Frame} {meth : Method} {c : Code} {Qm : State → Prop} {cp cpE : Nat → Bool} {nx pc : Nat} {ls : List (Option zV)} {st : List zV} {σ : zS} {Q : zQ} {F : zF} {cd r : List (Nat × zIn)} {len a b idx : Nat} {imm : Int32} {tg : List (Int32 × Nat)}
    (hC : zCx G d y nx0 nxE p R s m args meth c) (hyo : (zmt y).1.cls = zown (zmo y)) (hd : decode (zmt y).2.1 pc = .ok (zdec pc 45 imm a b idx tg, len)) (hl : zlk y 45 imm a b idx tg = true) (hln : (Nat.beq 45 43 || Nat.beq 45 44 || Nat.beq len (zlenL.getD 45 3)) = true)
    (hF : ∀ cp nx pc ls st σ, F cp nx pc r ls st σ → zJ G (zmt y).2.2.1 nx0 nxE p l e R s m args below meth c Qm cp nx pc ls st σ)
    (hG : ∀ t cp nx pc ls st σ, F cp nx pc (zseek cd t) ls st σ → zJ G (zmt y).2.2.1 nx0 nxE p l e R s m args below meth c Qm cp nx pc ls st σ)
    (hEnd : ∀ (v : Option zV) (σ1 : zS) (pc1 : Nat) (ls1 : List (Option zV)), Q v σ1 → zrt y v pc1 → zJ G (zmt y).2.2.1 nx0 nxE p l e R s m args below meth c Qm cpE nxE pc1 ls1 v.toList σ1)
    (h : zstep F cd d cpE nxE Q cp nx pc r ls st σ 45 len imm a b tg) : zJ G (zmt y).2.2.1 nx0 nxE p l e R s m args below meth c Qm cp nx pc ls st σ := by
  have e := zbeq (a := len) (b := 3) hln; subst e
  change (zflL.any _ && Nat.beq (zfk a b).1 0) = true at hl
  simp only [Bool.and_eq_true] at hl
  match st, h with
  | .inr (t, n, o) :: st, h =>
    obtain ⟨ht, h⟩ := zcond h
    exact zj_getI hC hyo hl.1 (zbeq hl.2) (zbeq ht) hd (hF _ _ _ _ _ _ h)
set_option maxHeartbeats 400000 in
set_option maxRecDepth 100000 in
theorem zs_46 {G : zG} {d y nx0 nxE : Nat} {p : Program} {l : Launch} {e : Env} {R : Room} {s : State} {m : MethodId} {args : Array Value} {below : List Frame} {meth : Method} {c : Code} {Qm : State → Prop} {cp cpE : Nat → Bool} {nx pc : Nat} {ls : List (Option zV)} {st : List zV} {σ : zS} {Q : zQ} {F : zF} {cd r : List (Nat × zIn)} {len a b idx : Nat} {imm : Int32} {tg : List (Int32 × Nat)}
    (hC : zCx G d y nx0 nxE p R s m args meth c) (hyo : (zmt y).1.cls = zown (zmo y)) (hd : decode (zmt y).2.1 pc = .ok (zdec pc 46 imm a b idx tg, len)) (hl : zlk y 46 imm a b idx tg = true) (hln : (Nat.beq 46 43 || Nat.beq 46 44 || Nat.beq len (zlenL.getD 46 3)) = true)
    (hF : ∀ cp nx pc ls st σ, F cp nx pc r ls st σ → zJ G (zmt y).2.2.1 nx0 nxE p l e R s m args below meth c Qm cp nx pc ls st σ)
    (hG : ∀ t cp nx pc ls st σ, F cp nx pc (zseek cd t) ls st σ → zJ G (zmt y).2.2.1 nx0 nxE p l e R s m args below meth c Qm cp nx pc ls st σ)
    (hEnd : ∀ (v : Option zV) (σ1 : zS) (pc1 : Nat) (ls1 : List (Option zV)), Q v σ1 → zrt y v pc1 → zJ G (zmt y).2.2.1 nx0 nxE p l e R s m args below meth c Qm cpE nxE pc1 ls1 v.toList σ1)
    (h : zstep F cd d cpE nxE Q cp nx pc r ls st σ 46 len imm a b tg) : zJ G (zmt y).2.2.1 nx0 nxE p l e R s m args below meth c Qm cp nx pc ls st σ := by
  have e := zbeq (a := len) (b := 3) hln; subst e
  change (zflL.any _ && Nat.beq (zfk a b).1 1) = true at hl
  simp only [Bool.and_eq_true] at hl
  match st, h with
  | .inr (t, n, o) :: st, h =>
    obtain ⟨ht, h⟩ := zcond h
    cases hcp : cp o with
    | true =>
      rw [hcp] at h
      exact zj_getF hC hyo hl.1 (zbeq hl.2) (zbeq ht) hcp hd (hF _ _ _ _ _ _ h)
    | false =>
      rw [hcp] at h
      exact zj_getM hC hyo hl.1 (by rw [zbeq hl.2]; decide) (fun _ => hcp) (zbeq ht) h.1 hd (fun q hq => hF _ _ _ _ _ _ (h.2 q hq))
set_option maxHeartbeats 400000 in
set_option maxRecDepth 100000 in
theorem zs_47 {G : zG} {d y nx0 nxE : Nat} {p : Program} {l : Launch} {e : Env} {R : Room} {s : State} {m : MethodId} {args : Array Value} {below : List Frame} {meth : Method} {c : Code} {Qm : State → Prop} {cp cpE : Nat → Bool} {nx pc : Nat} {ls : List (Option zV)} {st : List zV} {σ : zS} {Q : zQ} {F : zF} {cd r : List (Nat × zIn)} {len a b idx : Nat} {imm : Int32} {tg : List (Int32 × Nat)}
    (hC : zCx G d y nx0 nxE p R s m args meth c) (hyo : (zmt y).1.cls = zown (zmo y)) (hd : decode (zmt y).2.1 pc = .ok (zdec pc 47 imm a b idx tg, len)) (hl : zlk y 47 imm a b idx tg = true) (hln : (Nat.beq 47 43 || Nat.beq 47 44 || Nat.beq len (zlenL.getD 47 3)) = true)
    (hF : ∀ cp nx pc ls st σ, F cp nx pc r ls st σ → zJ G (zmt y).2.2.1 nx0 nxE p l e R s m args below meth c Qm cp nx pc ls st σ)
    (hG : ∀ t cp nx pc ls st σ, F cp nx pc (zseek cd t) ls st σ → zJ G (zmt y).2.2.1 nx0 nxE p l e R s m args below meth c Qm cp nx pc ls st σ)
    (hEnd : ∀ (v : Option zV) (σ1 : zS) (pc1 : Nat) (ls1 : List (Option zV)), Q v σ1 → zrt y v pc1 → zJ G (zmt y).2.2.1 nx0 nxE p l e R s m args below meth c Qm cpE nxE pc1 ls1 v.toList σ1)
    (h : zstep F cd d cpE nxE Q cp nx pc r ls st σ 47 len imm a b tg) : zJ G (zmt y).2.2.1 nx0 nxE p l e R s m args below meth c Qm cp nx pc ls st σ := by
  have e := zbeq (a := len) (b := 3) hln; subst e
  change (zflL.any _ && Nat.beq (zfk a b).1 2) = true at hl
  simp only [Bool.and_eq_true] at hl
  match st, h with
  | .inr (t, n, o) :: st, h =>
    obtain ⟨ht, h⟩ := zcond h
    exact zj_getM hC hyo hl.1 (by rw [zbeq hl.2]; decide) (fun q => by rw [zbeq hl.2] at q; cases q) (zbeq ht) h.1 hd (fun q hq => hF _ _ _ _ _ _ (h.2 q hq))
set_option maxHeartbeats 400000 in
set_option maxRecDepth 100000 in
theorem zs_48 {G : zG} {d y nx0 nxE : Nat} {p : Program} {l : Launch} {e : Env} {R : Room} {s : State} {m : MethodId} {args : Array Value} {below : List Frame} {meth : Method} {c : Code} {Qm : State → Prop} {cp cpE : Nat → Bool} {nx pc : Nat} {ls : List (Option zV)} {st : List zV} {σ : zS} {Q : zQ} {F : zF} {cd r : List (Nat × zIn)} {len a b idx : Nat} {imm : Int32} {tg : List (Int32 × Nat)}
    (hC : zCx G d y nx0 nxE p R s m args meth c) (hyo : (zmt y).1.cls = zown (zmo y)) (hd : decode (zmt y).2.1 pc = .ok (zdec pc 48 imm a b idx tg, len)) (hl : zlk y 48 imm a b idx tg = true) (hln : (Nat.beq 48 43 || Nat.beq 48 44 || Nat.beq len (zlenL.getD 48 3)) = true)
    (hF : ∀ cp nx pc ls st σ, F cp nx pc r ls st σ → zJ G (zmt y).2.2.1 nx0 nxE p l e R s m args below meth c Qm cp nx pc ls st σ)
    (hG : ∀ t cp nx pc ls st σ, F cp nx pc (zseek cd t) ls st σ → zJ G (zmt y).2.2.1 nx0 nxE p l e R s m args below meth c Qm cp nx pc ls st σ)
    (hEnd : ∀ (v : Option zV) (σ1 : zS) (pc1 : Nat) (ls1 : List (Option zV)), Q v σ1 → zrt y v pc1 → zJ G (zmt y).2.2.1 nx0 nxE p l e R s m args below meth c Qm cpE nxE pc1 ls1 v.toList σ1)
    (h : zstep F cd d cpE nxE Q cp nx pc r ls st σ 48 len imm a b tg) : zJ G (zmt y).2.2.1 nx0 nxE p l e R s m args below meth c Qm cp nx pc ls st σ := by
  have e := zbeq (a := len) (b := 3) hln; subst e
  change (zflL.any _ && Nat.beq (zfk a b).1 0) = true at hl
  simp only [Bool.and_eq_true] at hl
  match st, h with
  | .inl x :: .inr (t, n, o) :: st, h =>
    obtain ⟨ht, h⟩ := zcond h
    exact zj_putI hC hyo hl.1 (zbeq hl.2) (zbeq ht) hd (hF _ _ _ _ _ _ h)
set_option maxHeartbeats 400000 in
set_option maxRecDepth 100000 in
theorem zs_49 {G : zG} {d y nx0 nxE : Nat} {p : Program} {l : Launch} {e : Env} {R : Room} {s : State} {m : MethodId} {args : Array Value} {below : List Frame} {meth : Method} {c : Code} {Qm : State → Prop} {cp cpE : Nat → Bool} {nx pc : Nat} {ls : List (Option zV)} {st : List zV} {σ : zS} {Q : zQ} {F : zF} {cd r : List (Nat × zIn)} {len a b idx : Nat} {imm : Int32} {tg : List (Int32 × Nat)}
    (hC : zCx G d y nx0 nxE p R s m args meth c) (hyo : (zmt y).1.cls = zown (zmo y)) (hd : decode (zmt y).2.1 pc = .ok (zdec pc 49 imm a b idx tg, len)) (hl : zlk y 49 imm a b idx tg = true) (hln : (Nat.beq 49 43 || Nat.beq 49 44 || Nat.beq len (zlenL.getD 49 3)) = true)
    (hF : ∀ cp nx pc ls st σ, F cp nx pc r ls st σ → zJ G (zmt y).2.2.1 nx0 nxE p l e R s m args below meth c Qm cp nx pc ls st σ)
    (hG : ∀ t cp nx pc ls st σ, F cp nx pc (zseek cd t) ls st σ → zJ G (zmt y).2.2.1 nx0 nxE p l e R s m args below meth c Qm cp nx pc ls st σ)
    (hEnd : ∀ (v : Option zV) (σ1 : zS) (pc1 : Nat) (ls1 : List (Option zV)), Q v σ1 → zrt y v pc1 → zJ G (zmt y).2.2.1 nx0 nxE p l e R s m args below meth c Qm cpE nxE pc1 ls1 v.toList σ1)
    (h : zstep F cd d cpE nxE Q cp nx pc r ls st σ 49 len imm a b tg) : zJ G (zmt y).2.2.1 nx0 nxE p l e R s m args below meth c Qm cp nx pc ls st σ := by
  have e := zbeq (a := len) (b := 3) hln; subst e
  change (zflL.any _ && Nat.beq (zfk a b).1 2) = true at hl
  simp only [Bool.and_eq_true] at hl
  match st, h with
  | .inr (ft, fl, q) :: .inr (t, n, o) :: st, h =>
    obtain ⟨ht, h⟩ := zcond h
    exact zj_putR hC hyo hl.1 (Or.inl (zbeq hl.2)) (zbeq ht) h.1 hd (hF _ _ _ _ _ _ h.2)
set_option maxHeartbeats 400000 in
set_option maxRecDepth 100000 in
theorem zs_50 {G : zG} {d y nx0 nxE : Nat} {p : Program} {l : Launch} {e : Env} {R : Room} {s : State} {m : MethodId} {args : Array Value} {below : List Frame} {meth : Method} {c : Code} {Qm : State → Prop} {cp cpE : Nat → Bool} {nx pc : Nat} {ls : List (Option zV)} {st : List zV} {σ : zS} {Q : zQ} {F : zF} {cd r : List (Nat × zIn)} {len a b idx : Nat} {imm : Int32} {tg : List (Int32 × Nat)}
    (hC : zCx G d y nx0 nxE p R s m args meth c) (hyo : (zmt y).1.cls = zown (zmo y)) (hd : decode (zmt y).2.1 pc = .ok (zdec pc 50 imm a b idx tg, len)) (hl : zlk y 50 imm a b idx tg = true) (hln : (Nat.beq 50 43 || Nat.beq 50 44 || Nat.beq len (zlenL.getD 50 3)) = true)
    (hF : ∀ cp nx pc ls st σ, F cp nx pc r ls st σ → zJ G (zmt y).2.2.1 nx0 nxE p l e R s m args below meth c Qm cp nx pc ls st σ)
    (hG : ∀ t cp nx pc ls st σ, F cp nx pc (zseek cd t) ls st σ → zJ G (zmt y).2.2.1 nx0 nxE p l e R s m args below meth c Qm cp nx pc ls st σ)
    (hEnd : ∀ (v : Option zV) (σ1 : zS) (pc1 : Nat) (ls1 : List (Option zV)), Q v σ1 → zrt y v pc1 → zJ G (zmt y).2.2.1 nx0 nxE p l e R s m args below meth c Qm cpE nxE pc1 ls1 v.toList σ1)
    (h : zstep F cd d cpE nxE Q cp nx pc r ls st σ 50 len imm a b tg) : zJ G (zmt y).2.2.1 nx0 nxE p l e R s m args below meth c Qm cp nx pc ls st σ := by
  have e := zbeq (a := len) (b := 3) hln; subst e
  change (zflL.any _ && Nat.beq (zfk a b).1 1 && Nat.beq (zmo y) a && decide ((zmt y).1.name = "<init>")) = true at hl
  simp only [Bool.and_eq_true, decide_eq_true_eq] at hl
  match st, h with
  | .inr (ft, fl, q) :: .inr (t, n, o) :: st, h =>
    obtain ⟨ht, h⟩ := zcond h
    exact zj_putR hC hyo hl.1.1.1 (Or.inr ⟨zbeq hl.1.1.2, h.2.1, zbeq hl.1.2, hl.2⟩) (zbeq ht) h.1 hd (hF _ _ _ _ _ _ h.2.2)
set_option maxHeartbeats 400000 in
set_option maxRecDepth 100000 in
theorem zs_51 {G : zG} {d y nx0 nxE : Nat} {p : Program} {l : Launch} {e : Env} {R : Room} {s : State} {m : MethodId} {args : Array Value} {below : List Frame} {meth : Method} {c : Code} {Qm : State → Prop} {cp cpE : Nat → Bool} {nx pc : Nat} {ls : List (Option zV)} {st : List zV} {σ : zS} {Q : zQ} {F : zF} {cd r : List (Nat × zIn)} {len a b idx : Nat} {imm : Int32} {tg : List (Int32 × Nat)}
    (hC : zCx G d y nx0 nxE p R s m args meth c) (hyo : (zmt y).1.cls = zown (zmo y)) (hd : decode (zmt y).2.1 pc = .ok (zdec pc 51 imm a b idx tg, len)) (hl : zlk y 51 imm a b idx tg = true) (hln : (Nat.beq 51 43 || Nat.beq 51 44 || Nat.beq len (zlenL.getD 51 3)) = true)
    (hF : ∀ cp nx pc ls st σ, F cp nx pc r ls st σ → zJ G (zmt y).2.2.1 nx0 nxE p l e R s m args below meth c Qm cp nx pc ls st σ)
    (hG : ∀ t cp nx pc ls st σ, F cp nx pc (zseek cd t) ls st σ → zJ G (zmt y).2.2.1 nx0 nxE p l e R s m args below meth c Qm cp nx pc ls st σ)
    (hEnd : ∀ (v : Option zV) (σ1 : zS) (pc1 : Nat) (ls1 : List (Option zV)), Q v σ1 → zrt y v pc1 → zJ G (zmt y).2.2.1 nx0 nxE p l e R s m args below meth c Qm cpE nxE pc1 ls1 v.toList σ1)
    (h : zstep F cd d cpE nxE Q cp nx pc r ls st σ 51 len imm a b tg) : zJ G (zmt y).2.2.1 nx0 nxE p l e R s m args below meth c Qm cp nx pc ls st σ := by
  have e := zbeq (a := len) (b := 1) hln; subst e
  match st, h with
  | .inl i :: .inr (t, n, o) :: st, h =>
    obtain ⟨ht, h⟩ := zcond h
    simp only [Bool.or_eq_true] at ht
    exact zj_iald hC (ht.imp zbeq zbeq) h.1 hd (hF _ _ _ _ _ _ h.2)
set_option maxHeartbeats 400000 in
set_option maxRecDepth 100000 in
theorem zs_52 {G : zG} {d y nx0 nxE : Nat} {p : Program} {l : Launch} {e : Env} {R : Room} {s : State} {m : MethodId} {args : Array Value} {below : List Frame} {meth : Method} {c : Code} {Qm : State → Prop} {cp cpE : Nat → Bool} {nx pc : Nat} {ls : List (Option zV)} {st : List zV} {σ : zS} {Q : zQ} {F : zF} {cd r : List (Nat × zIn)} {len a b idx : Nat} {imm : Int32} {tg : List (Int32 × Nat)}
    (hC : zCx G d y nx0 nxE p R s m args meth c) (hyo : (zmt y).1.cls = zown (zmo y)) (hd : decode (zmt y).2.1 pc = .ok (zdec pc 52 imm a b idx tg, len)) (hl : zlk y 52 imm a b idx tg = true) (hln : (Nat.beq 52 43 || Nat.beq 52 44 || Nat.beq len (zlenL.getD 52 3)) = true)
    (hF : ∀ cp nx pc ls st σ, F cp nx pc r ls st σ → zJ G (zmt y).2.2.1 nx0 nxE p l e R s m args below meth c Qm cp nx pc ls st σ)
    (hG : ∀ t cp nx pc ls st σ, F cp nx pc (zseek cd t) ls st σ → zJ G (zmt y).2.2.1 nx0 nxE p l e R s m args below meth c Qm cp nx pc ls st σ)
    (hEnd : ∀ (v : Option zV) (σ1 : zS) (pc1 : Nat) (ls1 : List (Option zV)), Q v σ1 → zrt y v pc1 → zJ G (zmt y).2.2.1 nx0 nxE p l e R s m args below meth c Qm cpE nxE pc1 ls1 v.toList σ1)
    (h : zstep F cd d cpE nxE Q cp nx pc r ls st σ 52 len imm a b tg) : zJ G (zmt y).2.2.1 nx0 nxE p l e R s m args below meth c Qm cp nx pc ls st σ := by
  have e := zbeq (a := len) (b := 1) hln; subst e
  match st, h with
  | .inl i :: .inr (t, n, o) :: st, h =>
    cases hb2 : (Nat.beq t 21 || Nat.beq t 22) with
    | true =>
      change (bif (Nat.beq t 21 || Nat.beq t 22) then _ else _) at h
      rw [hb2] at h
      simp only [Bool.or_eq_true] at hb2
      exact zj_bald hC (hb2.imp zbeq zbeq) h.1 hd (hF _ _ _ _ _ _ h.2)
    | false =>
      change (bif (Nat.beq t 21 || Nat.beq t 22) then _ else _) at h
      rw [hb2] at h
      obtain ⟨ht, hh⟩ := zcond h
      have e27 := zbeq ht
      subst e27
      exact zj_bald27 hC hh.1 hd (hF _ _ _ _ _ _ hh.2)
set_option maxHeartbeats 400000 in
set_option maxRecDepth 100000 in
theorem zs_53 {G : zG} {d y nx0 nxE : Nat} {p : Program} {l : Launch} {e : Env} {R : Room} {s : State} {m : MethodId} {args : Array Value} {below : List Frame} {meth : Method} {c : Code} {Qm : State → Prop} {cp cpE : Nat → Bool} {nx pc : Nat} {ls : List (Option zV)} {st : List zV} {σ : zS} {Q : zQ} {F : zF} {cd r : List (Nat × zIn)} {len a b idx : Nat} {imm : Int32} {tg : List (Int32 × Nat)}
    (hC : zCx G d y nx0 nxE p R s m args meth c) (hyo : (zmt y).1.cls = zown (zmo y)) (hd : decode (zmt y).2.1 pc = .ok (zdec pc 53 imm a b idx tg, len)) (hl : zlk y 53 imm a b idx tg = true) (hln : (Nat.beq 53 43 || Nat.beq 53 44 || Nat.beq len (zlenL.getD 53 3)) = true)
    (hF : ∀ cp nx pc ls st σ, F cp nx pc r ls st σ → zJ G (zmt y).2.2.1 nx0 nxE p l e R s m args below meth c Qm cp nx pc ls st σ)
    (hG : ∀ t cp nx pc ls st σ, F cp nx pc (zseek cd t) ls st σ → zJ G (zmt y).2.2.1 nx0 nxE p l e R s m args below meth c Qm cp nx pc ls st σ)
    (hEnd : ∀ (v : Option zV) (σ1 : zS) (pc1 : Nat) (ls1 : List (Option zV)), Q v σ1 → zrt y v pc1 → zJ G (zmt y).2.2.1 nx0 nxE p l e R s m args below meth c Qm cpE nxE pc1 ls1 v.toList σ1)
    (h : zstep F cd d cpE nxE Q cp nx pc r ls st σ 53 len imm a b tg) : zJ G (zmt y).2.2.1 nx0 nxE p l e R s m args below meth c Qm cp nx pc ls st σ := by
  have e := zbeq (a := len) (b := 1) hln; subst e
  match st, h with
  | .inl x :: .inl i :: .inr (t, n, o) :: st, h =>
    obtain ⟨ht, h⟩ := zcond h
    exact zj_iast hC (zbeq ht) h.1 hd (hF _ _ _ _ _ _ h.2)
set_option maxHeartbeats 400000 in
set_option maxRecDepth 100000 in
theorem zs_54 {G : zG} {d y nx0 nxE : Nat} {p : Program} {l : Launch} {e : Env} {R : Room} {s : State} {m : MethodId} {args : Array Value} {below : List Frame} {meth : Method} {c : Code} {Qm : State → Prop} {cp cpE : Nat → Bool} {nx pc : Nat} {ls : List (Option zV)} {st : List zV} {σ : zS} {Q : zQ} {F : zF} {cd r : List (Nat × zIn)} {len a b idx : Nat} {imm : Int32} {tg : List (Int32 × Nat)}
    (hC : zCx G d y nx0 nxE p R s m args meth c) (hyo : (zmt y).1.cls = zown (zmo y)) (hd : decode (zmt y).2.1 pc = .ok (zdec pc 54 imm a b idx tg, len)) (hl : zlk y 54 imm a b idx tg = true) (hln : (Nat.beq 54 43 || Nat.beq 54 44 || Nat.beq len (zlenL.getD 54 3)) = true)
    (hF : ∀ cp nx pc ls st σ, F cp nx pc r ls st σ → zJ G (zmt y).2.2.1 nx0 nxE p l e R s m args below meth c Qm cp nx pc ls st σ)
    (hG : ∀ t cp nx pc ls st σ, F cp nx pc (zseek cd t) ls st σ → zJ G (zmt y).2.2.1 nx0 nxE p l e R s m args below meth c Qm cp nx pc ls st σ)
    (hEnd : ∀ (v : Option zV) (σ1 : zS) (pc1 : Nat) (ls1 : List (Option zV)), Q v σ1 → zrt y v pc1 → zJ G (zmt y).2.2.1 nx0 nxE p l e R s m args below meth c Qm cpE nxE pc1 ls1 v.toList σ1)
    (h : zstep F cd d cpE nxE Q cp nx pc r ls st σ 54 len imm a b tg) : zJ G (zmt y).2.2.1 nx0 nxE p l e R s m args below meth c Qm cp nx pc ls st σ := by
  have e := zbeq (a := len) (b := 1) hln; subst e
  match st, h with
  | .inl x :: .inl i :: .inr (t, n, o) :: st, h =>
    cases h21 : Nat.beq t 21 with
    | true =>
      change (bif Nat.beq t 21 then _ else _) at h
      rw [h21] at h
      exact zj_bast hC (zbeq h21) h.1 hd (hF _ _ _ _ _ _ h.2)
    | false =>
      change (bif Nat.beq t 21 then _ else _) at h
      rw [h21] at h
      obtain ⟨ht, h⟩ := zcond h
      exact zj_zast hC (zbeq ht) h.1 hd (hF _ _ _ _ _ _ h.2)
set_option maxHeartbeats 400000 in
set_option maxRecDepth 100000 in
theorem zs_55 {G : zG} {d y nx0 nxE : Nat} {p : Program} {l : Launch} {e : Env} {R : Room} {s : State} {m : MethodId} {args : Array Value} {below : List Frame} {meth : Method} {c : Code} {Qm : State → Prop} {cp cpE : Nat → Bool} {nx pc : Nat} {ls : List (Option zV)} {st : List zV} {σ : zS} {Q : zQ} {F : zF} {cd r : List (Nat × zIn)} {len a b idx : Nat} {imm : Int32} {tg : List (Int32 × Nat)}
    (hC : zCx G d y nx0 nxE p R s m args meth c) (hyo : (zmt y).1.cls = zown (zmo y)) (hd : decode (zmt y).2.1 pc = .ok (zdec pc 55 imm a b idx tg, len)) (hl : zlk y 55 imm a b idx tg = true) (hln : (Nat.beq 55 43 || Nat.beq 55 44 || Nat.beq len (zlenL.getD 55 3)) = true)
    (hF : ∀ cp nx pc ls st σ, F cp nx pc r ls st σ → zJ G (zmt y).2.2.1 nx0 nxE p l e R s m args below meth c Qm cp nx pc ls st σ)
    (hG : ∀ t cp nx pc ls st σ, F cp nx pc (zseek cd t) ls st σ → zJ G (zmt y).2.2.1 nx0 nxE p l e R s m args below meth c Qm cp nx pc ls st σ)
    (hEnd : ∀ (v : Option zV) (σ1 : zS) (pc1 : Nat) (ls1 : List (Option zV)), Q v σ1 → zrt y v pc1 → zJ G (zmt y).2.2.1 nx0 nxE p l e R s m args below meth c Qm cpE nxE pc1 ls1 v.toList σ1)
    (h : zstep F cd d cpE nxE Q cp nx pc r ls st σ 55 len imm a b tg) : zJ G (zmt y).2.2.1 nx0 nxE p l e R s m args below meth c Qm cp nx pc ls st σ := by
  have e := zbeq (a := len) (b := 1) hln; subst e
  match st, h with
  | .inl i :: .inr (t, n, o) :: st, h =>
    obtain ⟨ht, h⟩ := zcond h
    simp only [Bool.or_eq_true] at ht
    exact zj_aald hC (by rcases ht with (h | h) | h; exact Or.inl (zbeq h); exact Or.inr (Or.inl (zbeq h)); exact Or.inr (Or.inr (zbeq h))) h.1 h.2.1 hd (fun q hq => hF _ _ _ _ _ _ (h.2.2 q hq))
set_option maxHeartbeats 400000 in
set_option maxRecDepth 100000 in
theorem zs_56 {G : zG} {d y nx0 nxE : Nat} {p : Program} {l : Launch} {e : Env} {R : Room} {s : State} {m : MethodId} {args : Array Value} {below : List Frame} {meth : Method} {c : Code} {Qm : State → Prop} {cp cpE : Nat → Bool} {nx pc : Nat} {ls : List (Option zV)} {st : List zV} {σ : zS} {Q : zQ} {F : zF} {cd r : List (Nat × zIn)} {len a b idx : Nat} {imm : Int32} {tg : List (Int32 × Nat)}
    (hC : zCx G d y nx0 nxE p R s m args meth c) (hyo : (zmt y).1.cls = zown (zmo y)) (hd : decode (zmt y).2.1 pc = .ok (zdec pc 56 imm a b idx tg, len)) (hl : zlk y 56 imm a b idx tg = true) (hln : (Nat.beq 56 43 || Nat.beq 56 44 || Nat.beq len (zlenL.getD 56 3)) = true)
    (hF : ∀ cp nx pc ls st σ, F cp nx pc r ls st σ → zJ G (zmt y).2.2.1 nx0 nxE p l e R s m args below meth c Qm cp nx pc ls st σ)
    (hG : ∀ t cp nx pc ls st σ, F cp nx pc (zseek cd t) ls st σ → zJ G (zmt y).2.2.1 nx0 nxE p l e R s m args below meth c Qm cp nx pc ls st σ)
    (hEnd : ∀ (v : Option zV) (σ1 : zS) (pc1 : Nat) (ls1 : List (Option zV)), Q v σ1 → zrt y v pc1 → zJ G (zmt y).2.2.1 nx0 nxE p l e R s m args below meth c Qm cpE nxE pc1 ls1 v.toList σ1)
    (h : zstep F cd d cpE nxE Q cp nx pc r ls st σ 56 len imm a b tg) : zJ G (zmt y).2.2.1 nx0 nxE p l e R s m args below meth c Qm cp nx pc ls st σ := by
  have e := zbeq (a := len) (b := 1) hln; subst e
  match st, h with
  | .inr (ft, fl, q) :: .inl i :: .inr (t, n, o) :: st, h =>
    obtain ⟨ht, h⟩ := zcond h
    simp only [Bool.or_eq_true, Bool.and_eq_true] at ht
    exact zj_aast hC (by rcases ht with (h | h) | h; exact Or.inl ⟨zbeq h.1, zbeq h.2⟩; exact Or.inr (Or.inl ⟨zbeq h.1, zbeq h.2⟩); exact Or.inr (Or.inr ⟨zbeq h.1, zbeq h.2⟩)) h.1 hd (hF _ _ _ _ _ _ h.2)
set_option maxHeartbeats 400000 in
set_option maxRecDepth 100000 in
theorem zs_57 {G : zG} {d y nx0 nxE : Nat} {p : Program} {l : Launch} {e : Env} {R : Room} {s : State} {m : MethodId} {args : Array Value} {below : List Frame} {meth : Method} {c : Code} {Qm : State → Prop} {cp cpE : Nat → Bool} {nx pc : Nat} {ls : List (Option zV)} {st : List zV} {σ : zS} {Q : zQ} {F : zF} {cd r : List (Nat × zIn)} {len a b idx : Nat} {imm : Int32} {tg : List (Int32 × Nat)}
    (hC : zCx G d y nx0 nxE p R s m args meth c) (hyo : (zmt y).1.cls = zown (zmo y)) (hd : decode (zmt y).2.1 pc = .ok (zdec pc 57 imm a b idx tg, len)) (hl : zlk y 57 imm a b idx tg = true) (hln : (Nat.beq 57 43 || Nat.beq 57 44 || Nat.beq len (zlenL.getD 57 3)) = true)
    (hF : ∀ cp nx pc ls st σ, F cp nx pc r ls st σ → zJ G (zmt y).2.2.1 nx0 nxE p l e R s m args below meth c Qm cp nx pc ls st σ)
    (hG : ∀ t cp nx pc ls st σ, F cp nx pc (zseek cd t) ls st σ → zJ G (zmt y).2.2.1 nx0 nxE p l e R s m args below meth c Qm cp nx pc ls st σ)
    (hEnd : ∀ (v : Option zV) (σ1 : zS) (pc1 : Nat) (ls1 : List (Option zV)), Q v σ1 → zrt y v pc1 → zJ G (zmt y).2.2.1 nx0 nxE p l e R s m args below meth c Qm cpE nxE pc1 ls1 v.toList σ1)
    (h : zstep F cd d cpE nxE Q cp nx pc r ls st σ 57 len imm a b tg) : zJ G (zmt y).2.2.1 nx0 nxE p l e R s m args below meth c Qm cp nx pc ls st σ := by
  have e := zbeq (a := len) (b := 1) hln; subst e
  match st, h with
  | .inr (t, n, o) :: st, h =>
    obtain ⟨ht, h⟩ := zcond h
    simp only [Bool.and_eq_true] at ht
    exact zj_alen hC ⟨zble ht.1, zble ht.2⟩ hd (hF _ _ _ _ _ _ h)
set_option maxHeartbeats 400000 in
set_option maxRecDepth 100000 in
theorem zs_58 {G : zG} {d y nx0 nxE : Nat} {p : Program} {l : Launch} {e : Env} {R : Room} {s : State} {m : MethodId} {args : Array Value} {below : List Frame} {meth : Method} {c : Code} {Qm : State → Prop} {cp cpE : Nat → Bool} {nx pc : Nat} {ls : List (Option zV)} {st : List zV} {σ : zS} {Q : zQ} {F : zF} {cd r : List (Nat × zIn)} {len a b idx : Nat} {imm : Int32} {tg : List (Int32 × Nat)}
    (hC : zCx G d y nx0 nxE p R s m args meth c) (hyo : (zmt y).1.cls = zown (zmo y)) (hd : decode (zmt y).2.1 pc = .ok (zdec pc 58 imm a b idx tg, len)) (hl : zlk y 58 imm a b idx tg = true) (hln : (Nat.beq 58 43 || Nat.beq 58 44 || Nat.beq len (zlenL.getD 58 3)) = true)
    (hF : ∀ cp nx pc ls st σ, F cp nx pc r ls st σ → zJ G (zmt y).2.2.1 nx0 nxE p l e R s m args below meth c Qm cp nx pc ls st σ)
    (hG : ∀ t cp nx pc ls st σ, F cp nx pc (zseek cd t) ls st σ → zJ G (zmt y).2.2.1 nx0 nxE p l e R s m args below meth c Qm cp nx pc ls st σ)
    (hEnd : ∀ (v : Option zV) (σ1 : zS) (pc1 : Nat) (ls1 : List (Option zV)), Q v σ1 → zrt y v pc1 → zJ G (zmt y).2.2.1 nx0 nxE p l e R s m args below meth c Qm cpE nxE pc1 ls1 v.toList σ1)
    (h : zstep F cd d cpE nxE Q cp nx pc r ls st σ 58 len imm a b tg) : zJ G (zmt y).2.2.1 nx0 nxE p l e R s m args below meth c Qm cp nx pc ls st σ := by
  have e := zbeq (a := len) (b := 2) hln; subst e
  change (Nat.beq a 20 || Nat.beq a 21 || Nat.beq a 22) = true at hl
  simp only [Bool.or_eq_true] at hl
  match st, h with
  | .inl x :: st, h => exact zj_newa hC (by rcases hl with (h | h) | h; exact Or.inl (zbeq h); exact Or.inr (Or.inl (zbeq h)); exact Or.inr (Or.inr (zbeq h))) h.1 h.2.1 h.2.2.1 hd (hF _ _ _ _ _ _ h.2.2.2)
set_option maxHeartbeats 400000 in
set_option maxRecDepth 100000 in
theorem zs_59 {G : zG} {d y nx0 nxE : Nat} {p : Program} {l : Launch} {e : Env} {R : Room} {s : State} {m : MethodId} {args : Array Value} {below : List Frame} {meth : Method} {c : Code} {Qm : State → Prop} {cp cpE : Nat → Bool} {nx pc : Nat} {ls : List (Option zV)} {st : List zV} {σ : zS} {Q : zQ} {F : zF} {cd r : List (Nat × zIn)} {len a b idx : Nat} {imm : Int32} {tg : List (Int32 × Nat)}
    (hC : zCx G d y nx0 nxE p R s m args meth c) (hyo : (zmt y).1.cls = zown (zmo y)) (hd : decode (zmt y).2.1 pc = .ok (zdec pc 59 imm a b idx tg, len)) (hl : zlk y 59 imm a b idx tg = true) (hln : (Nat.beq 59 43 || Nat.beq 59 44 || Nat.beq len (zlenL.getD 59 3)) = true)
    (hF : ∀ cp nx pc ls st σ, F cp nx pc r ls st σ → zJ G (zmt y).2.2.1 nx0 nxE p l e R s m args below meth c Qm cp nx pc ls st σ)
    (hG : ∀ t cp nx pc ls st σ, F cp nx pc (zseek cd t) ls st σ → zJ G (zmt y).2.2.1 nx0 nxE p l e R s m args below meth c Qm cp nx pc ls st σ)
    (hEnd : ∀ (v : Option zV) (σ1 : zS) (pc1 : Nat) (ls1 : List (Option zV)), Q v σ1 → zrt y v pc1 → zJ G (zmt y).2.2.1 nx0 nxE p l e R s m args below meth c Qm cpE nxE pc1 ls1 v.toList σ1)
    (h : zstep F cd d cpE nxE Q cp nx pc r ls st σ 59 len imm a b tg) : zJ G (zmt y).2.2.1 nx0 nxE p l e R s m args below meth c Qm cp nx pc ls st σ := by
  have e := zbeq (a := len) (b := 3) hln; subst e
  change (zclL.any _ && ((Nat.beq a 23 && Nat.beq b 4) || (Nat.beq a 24 && Nat.beq b 5) || (Nat.beq a 25 && Nat.beq b 7))) = true at hl
  simp only [Bool.or_eq_true, Bool.and_eq_true] at hl
  match st, h with
  | .inl x :: st, h => exact zj_newq hC hyo hl.1 (by rcases hl.2 with (h | h) | h; exact Or.inl ⟨zbeq h.1, zbeq h.2⟩; exact Or.inr (Or.inl ⟨zbeq h.1, zbeq h.2⟩); exact Or.inr (Or.inr ⟨zbeq h.1, zbeq h.2⟩)) h.1 h.2.1 h.2.2.1 hd (hF _ _ _ _ _ _ h.2.2.2)
set_option maxHeartbeats 400000 in
set_option maxRecDepth 100000 in
theorem zs_60 {G : zG} {d y nx0 nxE : Nat} {p : Program} {l : Launch} {e : Env} {R : Room} {s : State} {m : MethodId} {args : Array Value} {below : List Frame} {meth : Method} {c : Code} {Qm : State → Prop} {cp cpE : Nat → Bool} {nx pc : Nat} {ls : List (Option zV)} {st : List zV} {σ : zS} {Q : zQ} {F : zF} {cd r : List (Nat × zIn)} {len a b idx : Nat} {imm : Int32} {tg : List (Int32 × Nat)}
    (hC : zCx G d y nx0 nxE p R s m args meth c) (hyo : (zmt y).1.cls = zown (zmo y)) (hd : decode (zmt y).2.1 pc = .ok (zdec pc 60 imm a b idx tg, len)) (hl : zlk y 60 imm a b idx tg = true) (hln : (Nat.beq 60 43 || Nat.beq 60 44 || Nat.beq len (zlenL.getD 60 3)) = true)
    (hF : ∀ cp nx pc ls st σ, F cp nx pc r ls st σ → zJ G (zmt y).2.2.1 nx0 nxE p l e R s m args below meth c Qm cp nx pc ls st σ)
    (hG : ∀ t cp nx pc ls st σ, F cp nx pc (zseek cd t) ls st σ → zJ G (zmt y).2.2.1 nx0 nxE p l e R s m args below meth c Qm cp nx pc ls st σ)
    (hEnd : ∀ (v : Option zV) (σ1 : zS) (pc1 : Nat) (ls1 : List (Option zV)), Q v σ1 → zrt y v pc1 → zJ G (zmt y).2.2.1 nx0 nxE p l e R s m args below meth c Qm cpE nxE pc1 ls1 v.toList σ1)
    (h : zstep F cd d cpE nxE Q cp nx pc r ls st σ 60 len imm a b tg) : zJ G (zmt y).2.2.1 nx0 nxE p l e R s m args below meth c Qm cp nx pc ls st σ := by
  have e := zbeq (a := len) (b := 3) hln; subst e
  change (zclL.any _ && Nat.blt a 10) = true at hl
  simp only [Bool.and_eq_true] at hl
  change (match zcl[a]? with | some q => _ | none => False) at h
  split at h
  · rename_i q hq
    exact zj_new hC hyo hl.1 hq h.1 h.2.1 h.2.2.1 hd (hF _ _ _ _ _ _ h.2.2.2)
  · exact h.elim
set_option maxHeartbeats 400000 in
set_option maxRecDepth 100000 in
theorem zs_61 {G : zG} {d y nx0 nxE : Nat} {p : Program} {l : Launch} {e : Env} {R : Room} {s : State} {m : MethodId} {args : Array Value} {below : List Frame} {meth : Method} {c : Code} {Qm : State → Prop} {cp cpE : Nat → Bool} {nx pc : Nat} {ls : List (Option zV)} {st : List zV} {σ : zS} {Q : zQ} {F : zF} {cd r : List (Nat × zIn)} {len a b idx : Nat} {imm : Int32} {tg : List (Int32 × Nat)}
    (hC : zCx G d y nx0 nxE p R s m args meth c) (hyo : (zmt y).1.cls = zown (zmo y)) (hd : decode (zmt y).2.1 pc = .ok (zdec pc 61 imm a b idx tg, len)) (hl : zlk y 61 imm a b idx tg = true) (hln : (Nat.beq 61 43 || Nat.beq 61 44 || Nat.beq len (zlenL.getD 61 3)) = true)
    (hF : ∀ cp nx pc ls st σ, F cp nx pc r ls st σ → zJ G (zmt y).2.2.1 nx0 nxE p l e R s m args below meth c Qm cp nx pc ls st σ)
    (hG : ∀ t cp nx pc ls st σ, F cp nx pc (zseek cd t) ls st σ → zJ G (zmt y).2.2.1 nx0 nxE p l e R s m args below meth c Qm cp nx pc ls st σ)
    (hEnd : ∀ (v : Option zV) (σ1 : zS) (pc1 : Nat) (ls1 : List (Option zV)), Q v σ1 → zrt y v pc1 → zJ G (zmt y).2.2.1 nx0 nxE p l e R s m args below meth c Qm cpE nxE pc1 ls1 v.toList σ1)
    (h : zstep F cd d cpE nxE Q cp nx pc r ls st σ 61 len imm a b tg) : zJ G (zmt y).2.2.1 nx0 nxE p l e R s m args below meth c Qm cp nx pc ls st σ := by
  have e := zbeq (a := len) (b := 3) hln; subst e
  change (zmlL.any _ && !(zms a) && decide ((zmt a).1.name ≠ "<init>") && Nat.beq ((zmp a).2.2.2.2 + 1) b && Nat.blt (zmo a) 10) = true at hl
  simp only [Bool.and_eq_true, Bool.not_eq_true', decide_eq_true_eq] at hl
  obtain ⟨⟨⟨⟨l1, l2⟩, l3⟩, l4⟩, l5⟩ := hl
  obtain ⟨m1, m2⟩ := zml_of l1
  refine zst_c_of (idx := idx) hC hF rfl (fun d1 av rest Q1 e1 e2 e3 e4 e5 e6 e7 => ?_) h
  obtain ⟨n, o, as, rfl⟩ := zhd_of (e5 rfl)
  subst e1
  exact zj_callV hC hyo rfl m1 m2 l2 l3 rfl (zblt l5) (by have := zbeq l4; simp only [List.length_cons] at e2; omega) e3 e4 hd e6 e7
set_option maxHeartbeats 400000 in
set_option maxRecDepth 100000 in
theorem zs_62 {G : zG} {d y nx0 nxE : Nat} {p : Program} {l : Launch} {e : Env} {R : Room} {s : State} {m : MethodId} {args : Array Value} {below : List Frame} {meth : Method} {c : Code} {Qm : State → Prop} {cp cpE : Nat → Bool} {nx pc : Nat} {ls : List (Option zV)} {st : List zV} {σ : zS} {Q : zQ} {F : zF} {cd r : List (Nat × zIn)} {len a b idx : Nat} {imm : Int32} {tg : List (Int32 × Nat)}
    (hC : zCx G d y nx0 nxE p R s m args meth c) (hyo : (zmt y).1.cls = zown (zmo y)) (hd : decode (zmt y).2.1 pc = .ok (zdec pc 62 imm a b idx tg, len)) (hl : zlk y 62 imm a b idx tg = true) (hln : (Nat.beq 62 43 || Nat.beq 62 44 || Nat.beq len (zlenL.getD 62 3)) = true)
    (hF : ∀ cp nx pc ls st σ, F cp nx pc r ls st σ → zJ G (zmt y).2.2.1 nx0 nxE p l e R s m args below meth c Qm cp nx pc ls st σ)
    (hG : ∀ t cp nx pc ls st σ, F cp nx pc (zseek cd t) ls st σ → zJ G (zmt y).2.2.1 nx0 nxE p l e R s m args below meth c Qm cp nx pc ls st σ)
    (hEnd : ∀ (v : Option zV) (σ1 : zS) (pc1 : Nat) (ls1 : List (Option zV)), Q v σ1 → zrt y v pc1 → zJ G (zmt y).2.2.1 nx0 nxE p l e R s m args below meth c Qm cpE nxE pc1 ls1 v.toList σ1)
    (h : zstep F cd d cpE nxE Q cp nx pc r ls st σ 62 len imm a b tg) : zJ G (zmt y).2.2.1 nx0 nxE p l e R s m args below meth c Qm cp nx pc ls st σ := by
  have e := zbeq (a := len) (b := 3) hln; subst e
  change (zmlL.any _ && zms a && Nat.beq (zmp a).2.2.2.2 b) = true at hl
  simp only [Bool.and_eq_true] at hl
  obtain ⟨⟨l1, l2⟩, l3⟩ := hl
  obtain ⟨m1, m2⟩ := zml_of l1
  refine zst_c_of (idx := idx) hC hF rfl (fun d1 av rest Q1 e1 e2 e3 e4 e5 e6 e7 => ?_) h
  subst e1
  exact zj_callS hC hyo rfl m1 m2 l2 (zbeq l3) e2 e3 e4 hd e6 e7
set_option maxHeartbeats 400000 in
set_option maxRecDepth 100000 in
theorem zs_63 {G : zG} {d y nx0 nxE : Nat} {p : Program} {l : Launch} {e : Env} {R : Room} {s : State} {m : MethodId} {args : Array Value} {below : List Frame} {meth : Method} {c : Code} {Qm : State → Prop} {cp cpE : Nat → Bool} {nx pc : Nat} {ls : List (Option zV)} {st : List zV} {σ : zS} {Q : zQ} {F : zF} {cd r : List (Nat × zIn)} {len a b idx : Nat} {imm : Int32} {tg : List (Int32 × Nat)}
    (hC : zCx G d y nx0 nxE p R s m args meth c) (hyo : (zmt y).1.cls = zown (zmo y)) (hd : decode (zmt y).2.1 pc = .ok (zdec pc 63 imm a b idx tg, len)) (hl : zlk y 63 imm a b idx tg = true) (hln : (Nat.beq 63 43 || Nat.beq 63 44 || Nat.beq len (zlenL.getD 63 3)) = true)
    (hF : ∀ cp nx pc ls st σ, F cp nx pc r ls st σ → zJ G (zmt y).2.2.1 nx0 nxE p l e R s m args below meth c Qm cp nx pc ls st σ)
    (hG : ∀ t cp nx pc ls st σ, F cp nx pc (zseek cd t) ls st σ → zJ G (zmt y).2.2.1 nx0 nxE p l e R s m args below meth c Qm cp nx pc ls st σ)
    (hEnd : ∀ (v : Option zV) (σ1 : zS) (pc1 : Nat) (ls1 : List (Option zV)), Q v σ1 → zrt y v pc1 → zJ G (zmt y).2.2.1 nx0 nxE p l e R s m args below meth c Qm cpE nxE pc1 ls1 v.toList σ1)
    (h : zstep F cd d cpE nxE Q cp nx pc r ls st σ 63 len imm a b tg) : zJ G (zmt y).2.2.1 nx0 nxE p l e R s m args below meth c Qm cp nx pc ls st σ := by
  have e := zbeq (a := len) (b := 3) hln; subst e
  change (zmlL.any _ && !(zms a) && decide ((zmt a).1.name = "<init>") && Nat.beq ((zmp a).2.2.2.2 + 1) b) = true at hl
  simp only [Bool.and_eq_true, Bool.not_eq_true', decide_eq_true_eq] at hl
  obtain ⟨⟨⟨l1, l2⟩, l3⟩, l4⟩ := hl
  obtain ⟨m1, m2⟩ := zml_of l1
  refine zst_i_of (idx := idx) hC hF rfl (fun d1 t n o nx1 cp1 av rest Q1 e1 e2 e3 e4 e5 e6 e7 => ?_) h
  subst e1
  exact zj_callI hC hyo rfl m1 (Or.inl m2) l2 l3 (zinit_ret m1 l3) (by have := zbeq l4; omega) e3 e4 e5 hd e6 e7
set_option maxHeartbeats 400000 in
set_option maxRecDepth 100000 in
theorem zs_64 {G : zG} {d y nx0 nxE : Nat} {p : Program} {l : Launch} {e : Env} {R : Room} {s : State} {m : MethodId} {args : Array Value} {below : List Frame} {meth : Method} {c : Code} {Qm : State → Prop} {cp cpE : Nat → Bool} {nx pc : Nat} {ls : List (Option zV)} {st : List zV} {σ : zS} {Q : zQ} {F : zF} {cd r : List (Nat × zIn)} {len a b idx : Nat} {imm : Int32} {tg : List (Int32 × Nat)}
    (hC : zCx G d y nx0 nxE p R s m args meth c) (hyo : (zmt y).1.cls = zown (zmo y)) (hd : decode (zmt y).2.1 pc = .ok (zdec pc 64 imm a b idx tg, len)) (hl : zlk y 64 imm a b idx tg = true) (hln : (Nat.beq 64 43 || Nat.beq 64 44 || Nat.beq len (zlenL.getD 64 3)) = true)
    (hF : ∀ cp nx pc ls st σ, F cp nx pc r ls st σ → zJ G (zmt y).2.2.1 nx0 nxE p l e R s m args below meth c Qm cp nx pc ls st σ)
    (hG : ∀ t cp nx pc ls st σ, F cp nx pc (zseek cd t) ls st σ → zJ G (zmt y).2.2.1 nx0 nxE p l e R s m args below meth c Qm cp nx pc ls st σ)
    (hEnd : ∀ (v : Option zV) (σ1 : zS) (pc1 : Nat) (ls1 : List (Option zV)), Q v σ1 → zrt y v pc1 → zJ G (zmt y).2.2.1 nx0 nxE p l e R s m args below meth c Qm cpE nxE pc1 ls1 v.toList σ1)
    (h : zstep F cd d cpE nxE Q cp nx pc r ls st σ 64 len imm a b tg) : zJ G (zmt y).2.2.1 nx0 nxE p l e R s m args below meth c Qm cp nx pc ls st σ := by
  have e := zbeq (a := len) (b := 3) hln; subst e
  match st, h with
  | .inr q :: st, h =>
    cases d with
    | zero => exact False.elim h
    | succ d1 =>
      obtain ⟨h8, h⟩ := zcond h
      exact zj_obj hC hyo (of_decide_eq_true hl) (by omega) (zble h8) rfl hd (hF _ _ _ _ _ _ h)
set_option maxHeartbeats 400000 in
set_option maxRecDepth 100000 in
theorem zs_65 {G : zG} {d y nx0 nxE : Nat} {p : Program} {l : Launch} {e : Env} {R : Room} {s : State} {m : MethodId} {args : Array Value} {below : List Frame} {meth : Method} {c : Code} {Qm : State → Prop} {cp cpE : Nat → Bool} {nx pc : Nat} {ls : List (Option zV)} {st : List zV} {σ : zS} {Q : zQ} {F : zF} {cd r : List (Nat × zIn)} {len a b idx : Nat} {imm : Int32} {tg : List (Int32 × Nat)}
    (hC : zCx G d y nx0 nxE p R s m args meth c) (hyo : (zmt y).1.cls = zown (zmo y)) (hd : decode (zmt y).2.1 pc = .ok (zdec pc 65 imm a b idx tg, len)) (hl : zlk y 65 imm a b idx tg = true) (hln : (Nat.beq 65 43 || Nat.beq 65 44 || Nat.beq len (zlenL.getD 65 3)) = true)
    (hF : ∀ cp nx pc ls st σ, F cp nx pc r ls st σ → zJ G (zmt y).2.2.1 nx0 nxE p l e R s m args below meth c Qm cp nx pc ls st σ)
    (hG : ∀ t cp nx pc ls st σ, F cp nx pc (zseek cd t) ls st σ → zJ G (zmt y).2.2.1 nx0 nxE p l e R s m args below meth c Qm cp nx pc ls st σ)
    (hEnd : ∀ (v : Option zV) (σ1 : zS) (pc1 : Nat) (ls1 : List (Option zV)), Q v σ1 → zrt y v pc1 → zJ G (zmt y).2.2.1 nx0 nxE p l e R s m args below meth c Qm cpE nxE pc1 ls1 v.toList σ1)
    (h : zstep F cd d cpE nxE Q cp nx pc r ls st σ 65 len imm a b tg) : zJ G (zmt y).2.2.1 nx0 nxE p l e R s m args below meth c Qm cp nx pc ls st σ := by
  have e := zbeq (a := len) (b := 3) hln; subst e
  change (znlL.any _ && zms a && Nat.beq (zmp a).2.2.2.2 b) = true at hl
  simp only [Bool.and_eq_true] at hl
  obtain ⟨⟨l1, l2⟩, l3⟩ := hl
  obtain ⟨m1, m2⟩ := znl_of l1
  refine zst_c_of (idx := idx) hC hF rfl (fun d1 av rest Q1 e1 e2 e3 e4 e5 e6 e7 => ?_) h
  subst e1
  exact zj_callSN hC hyo rfl m1 m2 l2 (zbeq l3) e2 e3 e4 hd e6 e7
set_option maxHeartbeats 400000 in
set_option maxRecDepth 100000 in
theorem zs_66 {G : zG} {d y nx0 nxE : Nat} {p : Program} {l : Launch} {e : Env} {R : Room} {s : State} {m : MethodId} {args : Array Value} {below : List Frame} {meth : Method} {c : Code} {Qm : State → Prop} {cp cpE : Nat → Bool} {nx pc : Nat} {ls : List (Option zV)} {st : List zV} {σ : zS} {Q : zQ} {F : zF} {cd r : List (Nat × zIn)} {len a b idx : Nat} {imm : Int32} {tg : List (Int32 × Nat)}
    (hC : zCx G d y nx0 nxE p R s m args meth c) (hyo : (zmt y).1.cls = zown (zmo y)) (hd : decode (zmt y).2.1 pc = .ok (zdec pc 66 imm a b idx tg, len)) (hl : zlk y 66 imm a b idx tg = true) (hln : (Nat.beq 66 43 || Nat.beq 66 44 || Nat.beq len (zlenL.getD 66 3)) = true)
    (hF : ∀ cp nx pc ls st σ, F cp nx pc r ls st σ → zJ G (zmt y).2.2.1 nx0 nxE p l e R s m args below meth c Qm cp nx pc ls st σ)
    (hG : ∀ t cp nx pc ls st σ, F cp nx pc (zseek cd t) ls st σ → zJ G (zmt y).2.2.1 nx0 nxE p l e R s m args below meth c Qm cp nx pc ls st σ)
    (hEnd : ∀ (v : Option zV) (σ1 : zS) (pc1 : Nat) (ls1 : List (Option zV)), Q v σ1 → zrt y v pc1 → zJ G (zmt y).2.2.1 nx0 nxE p l e R s m args below meth c Qm cpE nxE pc1 ls1 v.toList σ1)
    (h : zstep F cd d cpE nxE Q cp nx pc r ls st σ 66 len imm a b tg) : zJ G (zmt y).2.2.1 nx0 nxE p l e R s m args below meth c Qm cp nx pc ls st σ := by
  have e := zbeq (a := len) (b := 3) hln; subst e
  change (znlL.any _ && !(zms a) && decide ((zmt a).1.name = "<init>") && Nat.beq ((zmp a).2.2.2.2 + 1) b) = true at hl
  simp only [Bool.and_eq_true, Bool.not_eq_true', decide_eq_true_eq] at hl
  obtain ⟨⟨⟨l1, l2⟩, l3⟩, l4⟩ := hl
  obtain ⟨m1, m2⟩ := znl_of l1
  refine zst_i_of (idx := idx) hC hF rfl (fun d1 t n o nx1 cp1 av rest Q1 e1 e2 e3 e4 e5 e6 e7 => ?_) h
  subst e1
  exact zj_callI hC hyo rfl m1 (Or.inr m2) l2 l3 (zinit_ret m1 l3) (by have := zbeq l4; omega) e3 e4 e5 hd e6 e7
set_option maxHeartbeats 400000 in
set_option maxRecDepth 100000 in
theorem zs_67 {G : zG} {d y nx0 nxE : Nat} {p : Program} {l : Launch} {e : Env} {R : Room} {s : State} {m : MethodId} {args : Array Value} {below : List Frame} {meth : Method} {c : Code} {Qm : State → Prop} {cp cpE : Nat → Bool} {nx pc : Nat} {ls : List (Option zV)} {st : List zV} {σ : zS} {Q : zQ} {F : zF} {cd r : List (Nat × zIn)} {len a b idx : Nat} {imm : Int32} {tg : List (Int32 × Nat)}
    (hC : zCx G d y nx0 nxE p R s m args meth c) (hyo : (zmt y).1.cls = zown (zmo y)) (hd : decode (zmt y).2.1 pc = .ok (zdec pc 67 imm a b idx tg, len)) (hl : zlk y 67 imm a b idx tg = true) (hln : (Nat.beq 67 43 || Nat.beq 67 44 || Nat.beq len (zlenL.getD 67 3)) = true)
    (hF : ∀ cp nx pc ls st σ, F cp nx pc r ls st σ → zJ G (zmt y).2.2.1 nx0 nxE p l e R s m args below meth c Qm cp nx pc ls st σ)
    (hG : ∀ t cp nx pc ls st σ, F cp nx pc (zseek cd t) ls st σ → zJ G (zmt y).2.2.1 nx0 nxE p l e R s m args below meth c Qm cp nx pc ls st σ)
    (hEnd : ∀ (v : Option zV) (σ1 : zS) (pc1 : Nat) (ls1 : List (Option zV)), Q v σ1 → zrt y v pc1 → zJ G (zmt y).2.2.1 nx0 nxE p l e R s m args below meth c Qm cpE nxE pc1 ls1 v.toList σ1)
    (h : zstep F cd d cpE nxE Q cp nx pc r ls st σ 67 len imm a b tg) : zJ G (zmt y).2.2.1 nx0 nxE p l e R s m args below meth c Qm cp nx pc ls st σ := by
  have e := zbeq (a := len) (b := 3) hln; subst e
  match st, h with
  | .inl z :: .inl x :: st, h =>
    cases d with
    | zero => exact False.elim h
    | succ d1 =>
      obtain ⟨h8, h⟩ := zcond h
      exact zj_min hC hyo (of_decide_eq_true hl) (by omega) (zble h8) rfl hd (hF _ _ _ _ _ _ h)
set_option maxHeartbeats 400000 in
set_option maxRecDepth 100000 in
theorem zs_68 {G : zG} {d y nx0 nxE : Nat} {p : Program} {l : Launch} {e : Env} {R : Room} {s : State} {m : MethodId} {args : Array Value} {below : List Frame} {meth : Method} {c : Code} {Qm : State → Prop} {cp cpE : Nat → Bool} {nx pc : Nat} {ls : List (Option zV)} {st : List zV} {σ : zS} {Q : zQ} {F : zF} {cd r : List (Nat × zIn)} {len a b idx : Nat} {imm : Int32} {tg : List (Int32 × Nat)}
    (hC : zCx G d y nx0 nxE p R s m args meth c) (hyo : (zmt y).1.cls = zown (zmo y)) (hd : decode (zmt y).2.1 pc = .ok (zdec pc 68 imm a b idx tg, len)) (hl : zlk y 68 imm a b idx tg = true) (hln : (Nat.beq 68 43 || Nat.beq 68 44 || Nat.beq len (zlenL.getD 68 3)) = true)
    (hF : ∀ cp nx pc ls st σ, F cp nx pc r ls st σ → zJ G (zmt y).2.2.1 nx0 nxE p l e R s m args below meth c Qm cp nx pc ls st σ)
    (hG : ∀ t cp nx pc ls st σ, F cp nx pc (zseek cd t) ls st σ → zJ G (zmt y).2.2.1 nx0 nxE p l e R s m args below meth c Qm cp nx pc ls st σ)
    (hEnd : ∀ (v : Option zV) (σ1 : zS) (pc1 : Nat) (ls1 : List (Option zV)), Q v σ1 → zrt y v pc1 → zJ G (zmt y).2.2.1 nx0 nxE p l e R s m args below meth c Qm cpE nxE pc1 ls1 v.toList σ1)
    (h : zstep F cd d cpE nxE Q cp nx pc r ls st σ 68 len imm a b tg) : zJ G (zmt y).2.2.1 nx0 nxE p l e R s m args below meth c Qm cp nx pc ls st σ := by
  have e := zbeq (a := len) (b := 3) hln; subst e
  match st, h with
  | .inl z :: .inl x :: st, h =>
    cases d with
    | zero => exact False.elim h
    | succ d1 =>
      obtain ⟨h8, h⟩ := zcond h
      exact zj_max hC hyo (of_decide_eq_true hl) (by omega) (zble h8) rfl hd (hF _ _ _ _ _ _ h)
set_option maxHeartbeats 400000 in
set_option maxRecDepth 100000 in
theorem zs_69 {G : zG} {d y nx0 nxE : Nat} {p : Program} {l : Launch} {e : Env} {R : Room} {s : State} {m : MethodId} {args : Array Value} {below : List Frame} {meth : Method} {c : Code} {Qm : State → Prop} {cp cpE : Nat → Bool} {nx pc : Nat} {ls : List (Option zV)} {st : List zV} {σ : zS} {Q : zQ} {F : zF} {cd r : List (Nat × zIn)} {len a b idx : Nat} {imm : Int32} {tg : List (Int32 × Nat)}
    (hC : zCx G d y nx0 nxE p R s m args meth c) (hyo : (zmt y).1.cls = zown (zmo y)) (hd : decode (zmt y).2.1 pc = .ok (zdec pc 69 imm a b idx tg, len)) (hl : zlk y 69 imm a b idx tg = true) (hln : (Nat.beq 69 43 || Nat.beq 69 44 || Nat.beq len (zlenL.getD 69 3)) = true)
    (hF : ∀ cp nx pc ls st σ, F cp nx pc r ls st σ → zJ G (zmt y).2.2.1 nx0 nxE p l e R s m args below meth c Qm cp nx pc ls st σ)
    (hG : ∀ t cp nx pc ls st σ, F cp nx pc (zseek cd t) ls st σ → zJ G (zmt y).2.2.1 nx0 nxE p l e R s m args below meth c Qm cp nx pc ls st σ)
    (hEnd : ∀ (v : Option zV) (σ1 : zS) (pc1 : Nat) (ls1 : List (Option zV)), Q v σ1 → zrt y v pc1 → zJ G (zmt y).2.2.1 nx0 nxE p l e R s m args below meth c Qm cpE nxE pc1 ls1 v.toList σ1)
    (h : zstep F cd d cpE nxE Q cp nx pc r ls st σ 69 len imm a b tg) : zJ G (zmt y).2.2.1 nx0 nxE p l e R s m args below meth c Qm cp nx pc ls st σ := by
  have e := zbeq (a := len) (b := 3) hln; subst e
  match st, h with
  | .inl n :: .inl dp :: .inr (t1, n1, o1) :: .inl sp :: .inr (t0, n0, o0) :: st, h =>
    cases d with
    | zero => exact False.elim h
    | succ d1 =>
      obtain ⟨h8, hh⟩ := zcond h
      simp only [Bool.and_eq_true] at h8
      have e0 := zbeq h8.1.1
      have e1 := zbeq h8.1.2
      subst e0
      subst e1
      exact zj_copy hC hyo (of_decide_eq_true hl) (by omega) (zble h8.2) rfl hh.1 hh.2.1 hh.2.2.1 hh.2.2.2.1 hh.2.2.2.2.1 hd (hF _ _ _ _ _ _ hh.2.2.2.2.2)
set_option maxHeartbeats 400000 in
set_option maxRecDepth 100000 in
theorem zs_70 {G : zG} {d y nx0 nxE : Nat} {p : Program} {l : Launch} {e : Env} {R : Room} {s : State} {m : MethodId} {args : Array Value} {below : List Frame} {meth : Method} {c : Code} {Qm : State → Prop} {cp cpE : Nat → Bool} {nx pc : Nat} {ls : List (Option zV)} {st : List zV} {σ : zS} {Q : zQ} {F : zF} {cd r : List (Nat × zIn)} {len a b idx : Nat} {imm : Int32} {tg : List (Int32 × Nat)}
    (hC : zCx G d y nx0 nxE p R s m args meth c) (hyo : (zmt y).1.cls = zown (zmo y)) (hd : decode (zmt y).2.1 pc = .ok (zdec pc 70 imm a b idx tg, len)) (hl : zlk y 70 imm a b idx tg = true) (hln : (Nat.beq 70 43 || Nat.beq 70 44 || Nat.beq len (zlenL.getD 70 3)) = true)
    (hF : ∀ cp nx pc ls st σ, F cp nx pc r ls st σ → zJ G (zmt y).2.2.1 nx0 nxE p l e R s m args below meth c Qm cp nx pc ls st σ)
    (hG : ∀ t cp nx pc ls st σ, F cp nx pc (zseek cd t) ls st σ → zJ G (zmt y).2.2.1 nx0 nxE p l e R s m args below meth c Qm cp nx pc ls st σ)
    (hEnd : ∀ (v : Option zV) (σ1 : zS) (pc1 : Nat) (ls1 : List (Option zV)), Q v σ1 → zrt y v pc1 → zJ G (zmt y).2.2.1 nx0 nxE p l e R s m args below meth c Qm cpE nxE pc1 ls1 v.toList σ1)
    (h : zstep F cd d cpE nxE Q cp nx pc r ls st σ 70 len imm a b tg) : zJ G (zmt y).2.2.1 nx0 nxE p l e R s m args below meth c Qm cp nx pc ls st σ := by
  have e := zbeq (a := len) (b := 1) hln; subst e
  match st, h with
  | [.inl x], h =>
    obtain ⟨rfl, rfl, hq⟩ := h
    exact hEnd (some (.inl x)) σ pc ls hq ⟨hd, Or.inl (of_decide_eq_true hl)⟩
set_option maxHeartbeats 400000 in
set_option maxRecDepth 100000 in
theorem zs_71 {G : zG} {d y nx0 nxE : Nat} {p : Program} {l : Launch} {e : Env} {R : Room} {s : State} {m : MethodId} {args : Array Value} {below : List Frame} {meth : Method} {c : Code} {Qm : State → Prop} {cp cpE : Nat → Bool} {nx pc : Nat} {ls : List (Option zV)} {st : List zV} {σ : zS} {Q : zQ} {F : zF} {cd r : List (Nat × zIn)} {len a b idx : Nat} {imm : Int32} {tg : List (Int32 × Nat)}
    (hC : zCx G d y nx0 nxE p R s m args meth c) (hyo : (zmt y).1.cls = zown (zmo y)) (hd : decode (zmt y).2.1 pc = .ok (zdec pc 71 imm a b idx tg, len)) (hl : zlk y 71 imm a b idx tg = true) (hln : (Nat.beq 71 43 || Nat.beq 71 44 || Nat.beq len (zlenL.getD 71 3)) = true)
    (hF : ∀ cp nx pc ls st σ, F cp nx pc r ls st σ → zJ G (zmt y).2.2.1 nx0 nxE p l e R s m args below meth c Qm cp nx pc ls st σ)
    (hG : ∀ t cp nx pc ls st σ, F cp nx pc (zseek cd t) ls st σ → zJ G (zmt y).2.2.1 nx0 nxE p l e R s m args below meth c Qm cp nx pc ls st σ)
    (hEnd : ∀ (v : Option zV) (σ1 : zS) (pc1 : Nat) (ls1 : List (Option zV)), Q v σ1 → zrt y v pc1 → zJ G (zmt y).2.2.1 nx0 nxE p l e R s m args below meth c Qm cpE nxE pc1 ls1 v.toList σ1)
    (h : zstep F cd d cpE nxE Q cp nx pc r ls st σ 71 len imm a b tg) : zJ G (zmt y).2.2.1 nx0 nxE p l e R s m args below meth c Qm cp nx pc ls st σ := by
  have e := zbeq (a := len) (b := 1) hln; subst e
  match st, h with
  | [.inl x], h =>
    obtain ⟨rfl, rfl, hx01, hq⟩ := h
    exact hEnd (some (.inl x)) σ pc ls hq ⟨hd, Or.inr (Or.inl ⟨of_decide_eq_true hl, hx01⟩)⟩
set_option maxHeartbeats 400000 in
set_option maxRecDepth 100000 in
theorem zs_72 {G : zG} {d y nx0 nxE : Nat} {p : Program} {l : Launch} {e : Env} {R : Room} {s : State} {m : MethodId} {args : Array Value} {below : List Frame} {meth : Method} {c : Code} {Qm : State → Prop} {cp cpE : Nat → Bool} {nx pc : Nat} {ls : List (Option zV)} {st : List zV} {σ : zS} {Q : zQ} {F : zF} {cd r : List (Nat × zIn)} {len a b idx : Nat} {imm : Int32} {tg : List (Int32 × Nat)}
    (hC : zCx G d y nx0 nxE p R s m args meth c) (hyo : (zmt y).1.cls = zown (zmo y)) (hd : decode (zmt y).2.1 pc = .ok (zdec pc 72 imm a b idx tg, len)) (hl : zlk y 72 imm a b idx tg = true) (hln : (Nat.beq 72 43 || Nat.beq 72 44 || Nat.beq len (zlenL.getD 72 3)) = true)
    (hF : ∀ cp nx pc ls st σ, F cp nx pc r ls st σ → zJ G (zmt y).2.2.1 nx0 nxE p l e R s m args below meth c Qm cp nx pc ls st σ)
    (hG : ∀ t cp nx pc ls st σ, F cp nx pc (zseek cd t) ls st σ → zJ G (zmt y).2.2.1 nx0 nxE p l e R s m args below meth c Qm cp nx pc ls st σ)
    (hEnd : ∀ (v : Option zV) (σ1 : zS) (pc1 : Nat) (ls1 : List (Option zV)), Q v σ1 → zrt y v pc1 → zJ G (zmt y).2.2.1 nx0 nxE p l e R s m args below meth c Qm cpE nxE pc1 ls1 v.toList σ1)
    (h : zstep F cd d cpE nxE Q cp nx pc r ls st σ 72 len imm a b tg) : zJ G (zmt y).2.2.1 nx0 nxE p l e R s m args below meth c Qm cp nx pc ls st σ := by
  have e := zbeq (a := len) (b := 1) hln; subst e
  match st, h with
  | [.inr q], h =>
    obtain ⟨rfl, rfl, hq⟩ := h
    refine hEnd (some (.inr q)) σ pc ls hq ⟨hd, ?_⟩
    change (match (zmt y).2.2.2 with | some (.object _) => true | _ => false) = true at hl
    split at hl
    · rename_i n hn
      exact ⟨n, hn⟩
    · cases hl
set_option maxHeartbeats 400000 in
set_option maxRecDepth 100000 in
theorem zs_73 {G : zG} {d y nx0 nxE : Nat} {p : Program} {l : Launch} {e : Env} {R : Room} {s : State} {m : MethodId} {args : Array Value} {below : List Frame} {meth : Method} {c : Code} {Qm : State → Prop} {cp cpE : Nat → Bool} {nx pc : Nat} {ls : List (Option zV)} {st : List zV} {σ : zS} {Q : zQ} {F : zF} {cd r : List (Nat × zIn)} {len a b idx : Nat} {imm : Int32} {tg : List (Int32 × Nat)}
    (hC : zCx G d y nx0 nxE p R s m args meth c) (hyo : (zmt y).1.cls = zown (zmo y)) (hd : decode (zmt y).2.1 pc = .ok (zdec pc 73 imm a b idx tg, len)) (hl : zlk y 73 imm a b idx tg = true) (hln : (Nat.beq 73 43 || Nat.beq 73 44 || Nat.beq len (zlenL.getD 73 3)) = true)
    (hF : ∀ cp nx pc ls st σ, F cp nx pc r ls st σ → zJ G (zmt y).2.2.1 nx0 nxE p l e R s m args below meth c Qm cp nx pc ls st σ)
    (hG : ∀ t cp nx pc ls st σ, F cp nx pc (zseek cd t) ls st σ → zJ G (zmt y).2.2.1 nx0 nxE p l e R s m args below meth c Qm cp nx pc ls st σ)
    (hEnd : ∀ (v : Option zV) (σ1 : zS) (pc1 : Nat) (ls1 : List (Option zV)), Q v σ1 → zrt y v pc1 → zJ G (zmt y).2.2.1 nx0 nxE p l e R s m args below meth c Qm cpE nxE pc1 ls1 v.toList σ1)
    (h : zstep F cd d cpE nxE Q cp nx pc r ls st σ 73 len imm a b tg) : zJ G (zmt y).2.2.1 nx0 nxE p l e R s m args below meth c Qm cp nx pc ls st σ := by
  have e := zbeq (a := len) (b := 1) hln; subst e
  match st, h with
  | [], h =>
    obtain ⟨rfl, rfl, hq⟩ := h
    exact hEnd none σ pc ls hq ⟨hd, of_decide_eq_true hl⟩
set_option maxHeartbeats 400000 in
set_option maxRecDepth 100000 in
theorem zs_74 {G : zG} {d y nx0 nxE : Nat} {p : Program} {l : Launch} {e : Env} {R : Room} {s : State} {m : MethodId} {args : Array Value} {below : List Frame} {meth : Method} {c : Code} {Qm : State → Prop} {cp cpE : Nat → Bool} {nx pc : Nat} {ls : List (Option zV)} {st : List zV} {σ : zS} {Q : zQ} {F : zF} {cd r : List (Nat × zIn)} {len a b idx : Nat} {imm : Int32} {tg : List (Int32 × Nat)}
    (hC : zCx G d y nx0 nxE p R s m args meth c) (hyo : (zmt y).1.cls = zown (zmo y)) (hd : decode (zmt y).2.1 pc = .ok (zdec pc 74 imm a b idx tg, len)) (hl : zlk y 74 imm a b idx tg = true) (hln : (Nat.beq 74 43 || Nat.beq 74 44 || Nat.beq len (zlenL.getD 74 3)) = true)
    (hF : ∀ cp nx pc ls st σ, F cp nx pc r ls st σ → zJ G (zmt y).2.2.1 nx0 nxE p l e R s m args below meth c Qm cp nx pc ls st σ)
    (hG : ∀ t cp nx pc ls st σ, F cp nx pc (zseek cd t) ls st σ → zJ G (zmt y).2.2.1 nx0 nxE p l e R s m args below meth c Qm cp nx pc ls st σ)
    (hEnd : ∀ (v : Option zV) (σ1 : zS) (pc1 : Nat) (ls1 : List (Option zV)), Q v σ1 → zrt y v pc1 → zJ G (zmt y).2.2.1 nx0 nxE p l e R s m args below meth c Qm cpE nxE pc1 ls1 v.toList σ1)
    (h : zstep F cd d cpE nxE Q cp nx pc r ls st σ 74 len imm a b tg) : zJ G (zmt y).2.2.1 nx0 nxE p l e R s m args below meth c Qm cp nx pc ls st σ := by
  have e := zbeq (a := len) (b := 3) hln; subst e
  change (decide _ && Nat.blt a 3) = true at hl
  simp only [Bool.and_eq_true, decide_eq_true_eq] at hl
  exact zj_gets hC hyo (zblt hl.2) hl.1 hd (hF _ _ _ _ _ _ h)
set_option maxHeartbeats 400000 in
set_option maxRecDepth 100000 in
theorem zs_75 {G : zG} {d y nx0 nxE : Nat} {p : Program} {l : Launch} {e : Env} {R : Room} {s : State} {m : MethodId} {args : Array Value} {below : List Frame} {meth : Method} {c : Code} {Qm : State → Prop} {cp cpE : Nat → Bool} {nx pc : Nat} {ls : List (Option zV)} {st : List zV} {σ : zS} {Q : zQ} {F : zF} {cd r : List (Nat × zIn)} {len a b idx : Nat} {imm : Int32} {tg : List (Int32 × Nat)}
    (hC : zCx G d y nx0 nxE p R s m args meth c) (hyo : (zmt y).1.cls = zown (zmo y)) (hd : decode (zmt y).2.1 pc = .ok (zdec pc 75 imm a b idx tg, len)) (hl : zlk y 75 imm a b idx tg = true) (hln : (Nat.beq 75 43 || Nat.beq 75 44 || Nat.beq len (zlenL.getD 75 3)) = true)
    (hF : ∀ cp nx pc ls st σ, F cp nx pc r ls st σ → zJ G (zmt y).2.2.1 nx0 nxE p l e R s m args below meth c Qm cp nx pc ls st σ)
    (hG : ∀ t cp nx pc ls st σ, F cp nx pc (zseek cd t) ls st σ → zJ G (zmt y).2.2.1 nx0 nxE p l e R s m args below meth c Qm cp nx pc ls st σ)
    (hEnd : ∀ (v : Option zV) (σ1 : zS) (pc1 : Nat) (ls1 : List (Option zV)), Q v σ1 → zrt y v pc1 → zJ G (zmt y).2.2.1 nx0 nxE p l e R s m args below meth c Qm cpE nxE pc1 ls1 v.toList σ1)
    (h : zstep F cd d cpE nxE Q cp nx pc r ls st σ 75 len imm a b tg) : zJ G (zmt y).2.2.1 nx0 nxE p l e R s m args below meth c Qm cp nx pc ls st σ := by
  have e := zbeq (a := len) (b := 3) hln; subst e
  change (Nat.beq (zmo y) 0 && Nat.beq idx 9 && Nat.beq a 0) = true at hl
  simp only [Bool.and_eq_true] at hl
  have ha := zbeq hl.2
  have hi := zbeq hl.1.2
  subst ha
  subst hi
  exact zj_getsN hC hyo (zbeq hl.1.1) hd (hF _ _ _ _ _ _ h)
set_option maxHeartbeats 4000000 in
set_option maxRecDepth 100000 in
theorem zstep_sound {G : zG} {d y nx0 nxE : Nat} {p : Program} {l : Launch} {e : Env} {R : Room} {s : State} {m : MethodId} {args : Array Value} {below : List Frame} {meth : Method} {c : Code} {Qm : State → Prop} {cp cpE : Nat → Bool} {nx pc : Nat} {ls : List (Option zV)} {st : List zV} {σ : zS} {Q : zQ} {F : zF} {cd r : List (Nat × zIn)} {op len a b idx : Nat} {imm : Int32} {tg : List (Int32 × Nat)}
    (hC : zCx G d y nx0 nxE p R s m args meth c) (hyo : (zmt y).1.cls = zown (zmo y)) (hok : zick (zmt y).2.1 y (pc, op, len, imm, a, b, idx, tg) = true)
    (hF : ∀ cp nx pc ls st σ, F cp nx pc r ls st σ → zJ G (zmt y).2.2.1 nx0 nxE p l e R s m args below meth c Qm cp nx pc ls st σ)
    (hG : ∀ t cp nx pc ls st σ, F cp nx pc (zseek cd t) ls st σ → zJ G (zmt y).2.2.1 nx0 nxE p l e R s m args below meth c Qm cp nx pc ls st σ)
    (hEnd : ∀ (v : Option zV) (σ1 : zS) (pc1 : Nat) (ls1 : List (Option zV)), Q v σ1 → zrt y v pc1 → zJ G (zmt y).2.2.1 nx0 nxE p l e R s m args below meth c Qm cpE nxE pc1 ls1 v.toList σ1)
    (h : zstep F cd d cpE nxE Q cp nx pc r ls st σ op len imm a b tg) : zJ G (zmt y).2.2.1 nx0 nxE p l e R s m args below meth c Qm cp nx pc ls st σ := by
  unfold zick at hok
  simp only [Bool.and_eq_true, decide_eq_true_eq] at hok
  obtain ⟨hd, hl, hln⟩ := hok
  by_cases e0 : op = 0
  · subst e0; exact zs_0 hC hyo hd hl hln hF hG hEnd h
  by_cases e1 : op = 1
  · subst e1; exact zs_1 hC hyo hd hl hln hF hG hEnd h
  by_cases e2 : op = 2
  · subst e2; exact zs_2 hC hyo hd hl hln hF hG hEnd h
  by_cases e3 : op = 3
  · subst e3; exact zs_3 hC hyo hd hl hln hF hG hEnd h
  by_cases e4 : op = 4
  · subst e4; exact zs_4 hC hyo hd hl hln hF hG hEnd h
  by_cases e5 : op = 5
  · subst e5; exact zs_5 hC hyo hd hl hln hF hG hEnd h
  by_cases e6 : op = 6
  · subst e6; exact zs_6 hC hyo hd hl hln hF hG hEnd h
  by_cases e7 : op = 7
  · subst e7; exact zs_7 hC hyo hd hl hln hF hG hEnd h
  by_cases e8 : op = 8
  · subst e8; exact zs_8 hC hyo hd hl hln hF hG hEnd h
  by_cases e9 : op = 9
  · subst e9; exact zs_9 hC hyo hd hl hln hF hG hEnd h
  by_cases e10 : op = 10
  · subst e10; exact zs_10 hC hyo hd hl hln hF hG hEnd h
  by_cases e11 : op = 11
  · subst e11; exact zs_11 hC hyo hd hl hln hF hG hEnd h
  by_cases e12 : op = 12
  · subst e12; exact zs_12 hC hyo hd hl hln hF hG hEnd h
  by_cases e13 : op = 13
  · subst e13; exact zs_13 hC hyo hd hl hln hF hG hEnd h
  by_cases e14 : op = 14
  · subst e14; exact zs_14 hC hyo hd hl hln hF hG hEnd h
  by_cases e15 : op = 15
  · subst e15; exact zs_15 hC hyo hd hl hln hF hG hEnd h
  by_cases e16 : op = 16
  · subst e16; exact zs_16 hC hyo hd hl hln hF hG hEnd h
  by_cases e17 : op = 17
  · subst e17; exact zs_17 hC hyo hd hl hln hF hG hEnd h
  by_cases e18 : op = 18
  · subst e18; exact zs_18 hC hyo hd hl hln hF hG hEnd h
  by_cases e19 : op = 19
  · subst e19; exact zs_19 hC hyo hd hl hln hF hG hEnd h
  by_cases e20 : op = 20
  · subst e20; exact zs_20 hC hyo hd hl hln hF hG hEnd h
  by_cases e21 : op = 21
  · subst e21; exact zs_21 hC hyo hd hl hln hF hG hEnd h
  by_cases e22 : op = 22
  · subst e22; exact zs_22 hC hyo hd hl hln hF hG hEnd h
  by_cases e23 : op = 23
  · subst e23; exact zs_23 hC hyo hd hl hln hF hG hEnd h
  by_cases e24 : op = 24
  · subst e24; exact zs_24 hC hyo hd hl hln hF hG hEnd h
  by_cases e25 : op = 25
  · subst e25; exact zs_25 hC hyo hd hl hln hF hG hEnd h
  by_cases e26 : op = 26
  · subst e26; exact zs_26 hC hyo hd hl hln hF hG hEnd h
  by_cases e27 : op = 27
  · subst e27; exact zs_27 hC hyo hd hl hln hF hG hEnd h
  by_cases e28 : op = 28
  · subst e28; exact zs_28 hC hyo hd hl hln hF hG hEnd h
  by_cases e29 : op = 29
  · subst e29; exact zs_29 hC hyo hd hl hln hF hG hEnd h
  by_cases e30 : op = 30
  · subst e30; exact zs_30 hC hyo hd hl hln hF hG hEnd h
  by_cases e31 : op = 31
  · subst e31; exact zs_31 hC hyo hd hl hln hF hG hEnd h
  by_cases e32 : op = 32
  · subst e32; exact zs_32 hC hyo hd hl hln hF hG hEnd h
  by_cases e33 : op = 33
  · subst e33; exact zs_33 hC hyo hd hl hln hF hG hEnd h
  by_cases e34 : op = 34
  · subst e34; exact zs_34 hC hyo hd hl hln hF hG hEnd h
  by_cases e35 : op = 35
  · subst e35; exact zs_35 hC hyo hd hl hln hF hG hEnd h
  by_cases e36 : op = 36
  · subst e36; exact zs_36 hC hyo hd hl hln hF hG hEnd h
  by_cases e37 : op = 37
  · subst e37; exact zs_37 hC hyo hd hl hln hF hG hEnd h
  by_cases e38 : op = 38
  · subst e38; exact zs_38 hC hyo hd hl hln hF hG hEnd h
  by_cases e39 : op = 39
  · subst e39; exact zs_39 hC hyo hd hl hln hF hG hEnd h
  by_cases e40 : op = 40
  · subst e40; exact zs_40 hC hyo hd hl hln hF hG hEnd h
  by_cases e41 : op = 41
  · subst e41; exact zs_41 hC hyo hd hl hln hF hG hEnd h
  by_cases e42 : op = 42
  · subst e42; exact zs_42 hC hyo hd hl hln hF hG hEnd h
  by_cases e43 : op = 43
  · subst e43; exact zs_43 hC hyo hd hl hln hF hG hEnd h
  by_cases e44 : op = 44
  · subst e44; exact zs_44 hC hyo hd hl hln hF hG hEnd h
  by_cases e45 : op = 45
  · subst e45; exact zs_45 hC hyo hd hl hln hF hG hEnd h
  by_cases e46 : op = 46
  · subst e46; exact zs_46 hC hyo hd hl hln hF hG hEnd h
  by_cases e47 : op = 47
  · subst e47; exact zs_47 hC hyo hd hl hln hF hG hEnd h
  by_cases e48 : op = 48
  · subst e48; exact zs_48 hC hyo hd hl hln hF hG hEnd h
  by_cases e49 : op = 49
  · subst e49; exact zs_49 hC hyo hd hl hln hF hG hEnd h
  by_cases e50 : op = 50
  · subst e50; exact zs_50 hC hyo hd hl hln hF hG hEnd h
  by_cases e51 : op = 51
  · subst e51; exact zs_51 hC hyo hd hl hln hF hG hEnd h
  by_cases e52 : op = 52
  · subst e52; exact zs_52 hC hyo hd hl hln hF hG hEnd h
  by_cases e53 : op = 53
  · subst e53; exact zs_53 hC hyo hd hl hln hF hG hEnd h
  by_cases e54 : op = 54
  · subst e54; exact zs_54 hC hyo hd hl hln hF hG hEnd h
  by_cases e55 : op = 55
  · subst e55; exact zs_55 hC hyo hd hl hln hF hG hEnd h
  by_cases e56 : op = 56
  · subst e56; exact zs_56 hC hyo hd hl hln hF hG hEnd h
  by_cases e57 : op = 57
  · subst e57; exact zs_57 hC hyo hd hl hln hF hG hEnd h
  by_cases e58 : op = 58
  · subst e58; exact zs_58 hC hyo hd hl hln hF hG hEnd h
  by_cases e59 : op = 59
  · subst e59; exact zs_59 hC hyo hd hl hln hF hG hEnd h
  by_cases e60 : op = 60
  · subst e60; exact zs_60 hC hyo hd hl hln hF hG hEnd h
  by_cases e61 : op = 61
  · subst e61; exact zs_61 hC hyo hd hl hln hF hG hEnd h
  by_cases e62 : op = 62
  · subst e62; exact zs_62 hC hyo hd hl hln hF hG hEnd h
  by_cases e63 : op = 63
  · subst e63; exact zs_63 hC hyo hd hl hln hF hG hEnd h
  by_cases e64 : op = 64
  · subst e64; exact zs_64 hC hyo hd hl hln hF hG hEnd h
  by_cases e65 : op = 65
  · subst e65; exact zs_65 hC hyo hd hl hln hF hG hEnd h
  by_cases e66 : op = 66
  · subst e66; exact zs_66 hC hyo hd hl hln hF hG hEnd h
  by_cases e67 : op = 67
  · subst e67; exact zs_67 hC hyo hd hl hln hF hG hEnd h
  by_cases e68 : op = 68
  · subst e68; exact zs_68 hC hyo hd hl hln hF hG hEnd h
  by_cases e69 : op = 69
  · subst e69; exact zs_69 hC hyo hd hl hln hF hG hEnd h
  by_cases e70 : op = 70
  · subst e70; exact zs_70 hC hyo hd hl hln hF hG hEnd h
  by_cases e71 : op = 71
  · subst e71; exact zs_71 hC hyo hd hl hln hF hG hEnd h
  by_cases e72 : op = 72
  · subst e72; exact zs_72 hC hyo hd hl hln hF hG hEnd h
  by_cases e73 : op = 73
  · subst e73; exact zs_73 hC hyo hd hl hln hF hG hEnd h
  by_cases e74 : op = 74
  · subst e74; exact zs_74 hC hyo hd hl hln hF hG hEnd h
  by_cases e75 : op = 75
  · subst e75; exact zs_75 hC hyo hd hl hln hF hG hEnd h
  have hop : ¬ op < 76 := by omega
  rw [zdec_hi hop] at hd
  rw [zlk_hi hop] at hl
  rw [zstep_hi hop] at h
  refine zstep2_sound hC hyo hd hl ?_ hF hEnd h
  have h43 : Nat.beq op 43 = false := by
    cases hq : Nat.beq op 43 with
    | false => rfl
    | true => have := zbeq hq; omega
  have h44 : Nat.beq op 44 = false := by
    cases hq : Nat.beq op 44 with
    | false => rfl
    | true => have := zbeq hq; omega
  rw [h43, h44] at hln
  exact zbeq hln
/-- a run of steps -/
theorem zseek_sub {cd : List (Nat × zIn)} {t : Nat} : ∀ q ∈ zseek cd t, q ∈ cd := fun q hq => (List.dropWhile_sublist _).subset hq
theorem zvc_sound {d y nxE : Nat} {cpE : Nat → Bool} {Q : zQ} {cd : List (Nat × zIn)} {cs : List Nat} (hyo : (zmt y).1.cls = zown (zmo y)) (hcd : ∀ q ∈ cd, zick (zmt y).2.1 y q = true) :
    ∀ (n : Nat) (cp : Nat → Bool) (nx pc : Nat) (pos : List (Nat × zIn)) (ls : List (Option zV)) (st : List zV) (σ : zS), (∀ q ∈ pos, q ∈ cd) → zvc cd cs d y cpE nxE Q n cp nx pc pos ls st σ → zWp d cpE nxE y Q cp nx pc ls st σ
  | 0, _, _, _, _, _, _, _, _, h => h.elim
  | n + 1, cp, nx, pc, pos, ls, st, σ, hsub, h => by
    intro G nx0 p l e R s m args below meth c Qm hC hEnd
    match pos, hsub, h with
    | (pc0, op, len, imm, a, b, idx, tg) :: r, hsub, h =>
      obtain ⟨hpc0, hh⟩ := zcond h
      have hpc := zbeq hpc0
      subst hpc
      have step : ∀ (pos1 : List (Nat × zIn)), (∀ q ∈ pos1, q ∈ cd) → ∀ cp nx pc ls st σ, (bif cs.contains pc then zWp d cpE nxE y Q cp nx pc ls st σ else zvc cd cs d y cpE nxE Q n cp nx pc pos1 ls st σ) → zJ G (zmt y).2.2.1 nx0 nxE p l e R s m args below meth c Qm cp nx pc ls st σ := by
        intro pos1 hp1 cp nx pc ls st σ hh
        cases hcs : cs.contains pc with
        | true =>
          rw [hcs] at hh
          exact hh G nx0 p l e R s m args below meth c Qm hC hEnd
        | false =>
          rw [hcs] at hh
          exact zvc_sound hyo hcd n cp nx pc pos1 ls st σ hp1 hh G nx0 p l e R s m args below meth c Qm hC hEnd
      exact zstep_sound (F := fun cp nx pc pos ls st σ => bif cs.contains pc then zWp d cpE nxE y Q cp nx pc ls st σ else zvc cd cs d y cpE nxE Q n cp nx pc pos ls st σ) (cd := cd) hC hyo (hcd _ (hsub _ List.mem_cons_self)) (step r (fun q hq => hsub q (List.mem_cons_of_mem _ hq))) (fun t => step (zseek cd t) zseek_sub) (fun v σ1 pc1 ls1 hq hr => hEnd v σ1 pc1 ls1 hq hr) hh
/-- a method's contract out of its walk -/
theorem zargs_mem {G : zG} : ∀ (av : List zV) (k i : Nat) (v : zV), av[i]? = some v → (k + i, zval G v) ∈ lv_args k (av.map (zval G))
  | [], _, i, v, h => by cases h
  | w :: av, k, 0, v, h => by
    cases h
    exact List.mem_cons_self
  | w :: av, k, i + 1, v, h => by
    show _ ∈ (k, zval G w) :: lv_args (if (zval G w).category = 2 then k + 2 else k + 1) (av.map (zval G))
    rw [if_neg (by rw [zval_cat]; decide)]
    have := zargs_mem (G := G) av (k + 1) i v h
    rw [show k + 1 + i = k + (i + 1) by omega] at this
    exact List.mem_cons_of_mem _ this
theorem zsl_args {G : zG} (av : List zV) : (lg_sl (av.map (zval G))).length = av.length := by
  induction av with
  | nil => rfl
  | cons w av ih =>
    have : lg_sl ((w :: av).map (zval G)) = .val (zval G w) :: lg_sl (av.map (zval G)) := by
      simp only [lg_sl, List.map_cons, List.flatMap_cons]
      rw [if_neg (by rw [zval_cat]; decide)]
      rfl
    rw [this, List.length_cons, ih, List.length_cons]
def zlc (n : Nat) (av : List zV) : List (Option zV) := av.map some ++ List.replicate (n - av.length) none
theorem zCl.of {d nx nxE y : Nat} {cp cpE : Nat → Bool} {av : List zV} {σ : zS} {Q : zQ} (hy : y < 309) (hnx : nx ≤ nxE) (hlen : av.length ≤ (zmt y).2.2.1) (h : zWp d cpE nxE y Q cp nx 0 (zlc (zmt y).2.2.1 av) [] σ) : zCl d cp nx cpE nxE y av σ Q := by
  refine ⟨d, Nat.le_refl d, hnx, zsl_mono hnx, fun l G => ?_⟩
  refine Met.ofW (cc := (zmt y).2.1) (maxL := (zmt y).2.2.1) (ret := (zmt y).2.2.2) (zm_all y hy).2.2.2.2.2.2.2.2.2 rfl ?_
  intro p e s m args below meth c s₁ B hml hv
  obtain ⟨rfl, hRep, hK, hok⟩ := hv
  have hts := atoms_spec (ws := zwd y) B.pre
  have hl := lv_entry (av.map (zval G)) (n := (zmt y).2.2.1) (by rw [zsl_args]; exact hlen)
  rw [lg_entry_eq]
  generalize (lg_sl (av.map (zval G)) ++ List.replicate ((zmt y).2.2.1 - (lg_sl (av.map (zval G))).length) Slot.unset).toArray = lsA at hl ⊢
  have hC : zCx G d y nx nxE p (headSpec (zwd y) (zrm d nx nxE)).room s m (av.map (zval G)).toArray meth c := ⟨B.exec, B.bytes, hml, findClass_of_methodNamed B.named, fun w hw => hts w (List.mem_cons_of_mem _ hw), hK, hRep.1, Nat.le_refl _, Nat.le_refl _, Nat.le_refl _, Nat.le_refl _, (name_of_methodNamed B.named B.method).1, B.returns⟩
  have hA : ∀ q : Nat, s.heap.size ≤ q → zA G q := fun q hq => by
    show G.2.2.1 ≤ q
    have := hRep.1
    omega
  have hL : zLc G nx (zmt y).2.2.1 (zlc (zmt y).2.2.1 av) lsA := by
    refine ⟨?_, hl.1, hl.2.1, fun i v hi => ?_⟩
    · rw [zlc, List.length_append, List.length_map, List.length_replicate]
      omega
    · have hi' : av[i]? = some v := by
        by_cases hlt : i < av.length
        · rw [zlc, List.getElem?_append_left (by rw [List.length_map]; exact hlt), List.getElem?_map] at hi
          cases hq : av[i]? with
          | none => rw [hq] at hi; cases hi
          | some w => rw [hq] at hi; cases hi; rfl
        · rw [zlc, List.getElem?_append_right (by rw [List.length_map]; omega), List.getElem?_replicate] at hi
          split at hi <;> cases hi
      refine ⟨?_, hok v (List.mem_of_getElem? hi')⟩
      have := zargs_mem (G := G) av 0 i v hi'
      rw [Nat.zero_add] at this
      exact hl.2.2 _ this
  have hJ := h G nx p l e _ s m _ below meth c (MQ below (zPost G cpE nxE Q) (av.map (zval G)).toArray s (nxE - nx) (zsl nxE - zsl nx) (zA G)) hC (fun v σ1 pc1 ls1 hq hr => ?_)
  · have := hJ (Nat.le_refl _) hnx s.heap [] lsA hRep hL (fun v hv => (by cases hv)) va_S.rf
    rw [Nat.sub_self, Nat.sub_self] at this
    exact this
  · intro h0 hE H locs lsA1 hR hL1 hs hS
    have hlocks := B.notSynchronized
    match v, hr, hq, hs with
    | none, hr, hq, hs =>
      exact W.vret B.exec B.bytes (by rw [B.returns]; exact hr.2) (fun t ht hw => ⟨⟨none, σ1, rfl, hq, (fun q h => by cases h), by rw [ht]; exact hR⟩, hS.F ht⟩) hS.2.2 hr.1
    | some (.inl x), hr, hq, hs =>
      have hpost : ∀ t : State, t.heap = H → s.WarmedH t.vm → zPost G cpE nxE Q (av.map (zval G)).toArray s (.returned (some (.int x))) t := fun t ht hw => ⟨⟨some (.inl x), σ1, rfl, hq, (fun q h => by cases h; trivial), by rw [ht]; exact hR⟩, hS.F ht⟩
      rcases hr.2 with h1 | ⟨h1, h2⟩ | ⟨h1, h2⟩ | ⟨h1, h2⟩
      · exact W.iret B.exec B.bytes (by rw [B.returns]; exact h1) hpost hS.2.2 hr.1
      · exact W.zret B.exec B.bytes (by rw [B.returns]; exact h1) (by rcases h2 with h2 | h2 <;> (subst h2; rfl)) hpost hS.2.2 hr.1
      · exact W.zret (ty := .char) B.exec B.bytes (by rw [B.returns]; exact h1) (congrArg Value.int h2) hpost hS.2.2 hr.1
      · exact W.zret (ty := .byte) B.exec B.bytes (by rw [B.returns]; exact h1) (congrArg Value.int h2) hpost hS.2.2 hr.1
    | some (.inr q), hr, hq, hs =>
      obtain ⟨nm, hn⟩ := hr.2
      exact W.aret (v := .ref (zrho G q.2.2)) B.exec B.bytes (by rw [B.returns]; exact hn) (Or.inl ⟨nm, rfl⟩) (Or.inr ⟨_, rfl⟩) (fun t ht hw => ⟨⟨some (.inr q), σ1, rfl, hq, (fun z h => by cases h; exact hs _ List.mem_cons_self), by rw [ht]; exact hR⟩, hS.F ht⟩) hS.2.2 hr.1
theorem zCl.use {d d1 nx nx1 y : Nat} {cp cp1 : Nat → Bool} {av : List zV} {σ : zS} {Q Q1 : zQ} (h : zCl d1 cp nx cp1 nx1 y av σ Q1) (hd : d1 ≤ d) (hq : ∀ v σ1, Q1 v σ1 → Q v σ1) : zCl d cp nx cp1 nx1 y av σ Q := by
  obtain ⟨d0, h1, h2, h3, h4⟩ := h
  refine ⟨d0, Nat.le_trans h1 hd, h2, h3, fun l G => ?_⟩
  intro p e ha hc hk s m args below hf happ hpre ht
  obtain ⟨n, o, q1, q2, q3, q4, L, q5, q6⟩ := h4 l G p e ha hc hk s m args below hf happ hpre ht
  obtain ⟨⟨v, σ1, r1, r2, r3, r4⟩, r5⟩ := q4
  exact ⟨n, o, q1, q2, q3, ⟨⟨v, σ1, r1, hq v σ1 r2, r3, r4⟩, r5⟩, L, q5, q6⟩
/-- the whole of a method, at once -/
theorem zmeth {d y nx nxE : Nat} {cp cpE : Nat → Bool} {av : List zV} {σ : zS} {Q : zQ} {cd : List (Nat × zIn)} (cs : List Nat) (n : Nat) (hy : y < 309) (hyo : (zmt y).1.cls = zown (zmo y)) (hcd : ∀ q ∈ cd, zick (zmt y).2.1 y q = true) (hnx : nx ≤ nxE) (hlen : av.length ≤ (zmt y).2.2.1) (h : zvc cd cs d y cpE nxE Q n cp nx 0 cd (zlc (zmt y).2.2.1 av) [] σ) : zCl d cp nx cpE nxE y av σ Q := zCl.of hy hnx hlen (zvc_sound hyo hcd n cp nx 0 cd _ [] σ (fun _ h => h) h)
