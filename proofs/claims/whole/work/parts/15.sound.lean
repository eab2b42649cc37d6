/-! the pure machine's word holds of the machine -/
theorem zblt {a b : Nat} (h : Nat.blt a b = true) : a < b := by simpa [Nat.blt_eq] using h
theorem zble {a b : Nat} (h : Nat.ble a b = true) : a ≤ b := Nat.le_of_ble_eq_true h
theorem zcond {b : Bool} {P : Prop} (h : bif b then P else False) : b = true ∧ P := by
  cases b
  · exact h.elim
  · exact ⟨rfl, h⟩
theorem zhd_of {av : List zV} {t : Nat} (h : zhd av t = true) : ∃ n o as, av = .inr (t, n, o) :: as := by
  unfold zhd at h
  split at h
  · rename_i u n o as
    have := zbeq h
    subst this
    exact ⟨n, o, as, rfl⟩
  · cases h
def zrt (y : Nat) (v : Option zV) (pc : Nat) : Prop := match v with
  | none => decode (zmt y).2.1 pc = .ok (.return_, 1) ∧ (zmt y).2.2.2 = none
  | some (.inl x) => decode (zmt y).2.1 pc = .ok (.ireturn, 1) ∧ ((zmt y).2.2.2 = some .int ∨ ((zmt y).2.2.2 = some .boolean ∧ (x = 0 ∨ x = 1)))
  | some (.inr _) => decode (zmt y).2.1 pc = .ok (.areturn, 1) ∧ ∃ n, (zmt y).2.2.2 = some (.object n)
section ZM
variable {G : zG} {d y nx0 nxE : Nat} {p : Program} {l : Launch} {e : Env} {R : Room} {s : State} {m : MethodId} {args : Array Value} {below : List Frame} {meth : Method} {c : Code} {Qm : State → Prop} {cp cpE : Nat → Bool} {nx pc : Nat} {ls : List (Option zV)} {st : List zV} {σ : zS} {Q : zQ} {F : zF} {cd r : List (Nat × zIn)}
theorem zst_c_of {a b idx len : Nat} {rcv : Bool} (hC : zCx G d y nx0 nxE p R s m args meth c)
    (hF : ∀ cp nx pc ls st σ, F cp nx pc r ls st σ → zJ G (zmt y).2.2.1 nx0 nxE p l e R s m args below meth c Qm cp nx pc ls st σ) (hlen : len = 3)
    (hcall : ∀ (d1 : Nat) (av rest : List zV) (Q1 : zQ), d = d1 + 1 → av.length = b → st = av.reverse ++ rest → rest.length ≤ 8 → (rcv = true → zhd av (zmo a) = true) → zCl d1 cp nx cp nx a av σ Q1 → (∀ v σ1, Q1 v σ1 → zJ G (zmt y).2.2.1 nx0 nxE p l e R s m args below meth c Qm cp nx (pc + 3) ls (v.toList ++ rest) σ1) → zJ G (zmt y).2.2.1 nx0 nxE p l e R s m args below meth c Qm cp nx pc ls st σ)
    (h : zst_c F d cp nx pc r ls st σ len a b rcv) : zJ G (zmt y).2.2.1 nx0 nxE p l e R s m args below meth c Qm cp nx pc ls st σ := by
  obtain ⟨av, rest, hk, hst, hav⟩ := zpop_elim h
  obtain ⟨hb, hk⟩ := zcond hk
  simp only [Bool.and_eq_true, Bool.or_eq_true, Bool.not_eq_true'] at hb
  subst hlen
  cases d with
  | zero => exact hk.elim
  | succ d1 => exact hcall d1 av rest _ rfl hav hst (zble hb.1) (fun hr => hb.2.resolve_left (by rw [hr]; decide)) hk (fun v σ1 hq => hF _ _ _ _ _ _ hq)
theorem zst_i_of {a b idx len : Nat} (hC : zCx G d y nx0 nxE p R s m args meth c)
    (hF : ∀ cp nx pc ls st σ, F cp nx pc r ls st σ → zJ G (zmt y).2.2.1 nx0 nxE p l e R s m args below meth c Qm cp nx pc ls st σ) (hlen : len = 3)
    (hcall : ∀ (d1 t n o nx1 : Nat) (cp1 : Nat → Bool) (av rest : List zV) (Q1 : zQ), d = d1 + 1 → av.length + 1 = b → st = ((.inr (t, n, o) : zV) :: av).reverse ++ rest → rest.length ≤ 8 → nx1 ≤ nxE → zCl d1 cp nx cp1 nx1 a (.inr (t, n, o) :: av) σ Q1 → (∀ v σ1, Q1 v σ1 → zJ G (zmt y).2.2.1 nx0 nxE p l e R s m args below meth c Qm cp1 nx1 (pc + 3) ls (v.toList ++ rest) σ1) → zJ G (zmt y).2.2.1 nx0 nxE p l e R s m args below meth c Qm cp nx pc ls st σ)
    (h : zst_i F d nxE cp nx pc r ls st σ len a b) : zJ G (zmt y).2.2.1 nx0 nxE p l e R s m args below meth c Qm cp nx pc ls st σ := by
  obtain ⟨av, rest, hk, hst, hav⟩ := zpop_elim h
  obtain ⟨hb, hk⟩ := zcond hk
  simp only [Bool.and_eq_true] at hb
  subst hlen
  cases d with
  | zero => exact hk.elim
  | succ d1 =>
    obtain ⟨cp1, nx1, h1, -, hcl⟩ := hk
    match av, hb, hst, hav, hcl with
    | [], hb, _, _, _ => exact absurd hb.2 (by decide)
    | .inl x :: av, hb, _, _, _ => exact absurd hb.2 (by intro z; cases z)
    | .inr (t, n, o) :: av, hb, hst, hav, hcl => exact hcall d1 t n o nx1 cp1 av rest _ rfl hav hst (zble hb.1) h1 hcl (fun v σ1 hq => hF _ _ _ _ _ _ hq)
theorem zinit_ck : (List.range 297).all (fun a => !(decide ((zmt a).1.name = "<init>")) || decide ((zmt a).2.2.2 = none)) = true := by decide +kernel
theorem zinit_ret {a : Nat} (ha : a < 297) (h : (zmt a).1.name = "<init>") : (zmt a).2.2.2 = none := by
  have h1 := List.all_eq_true.mp zinit_ck a (List.mem_range.mpr ha)
  simp only [Bool.or_eq_true, Bool.not_eq_true', decide_eq_false_iff_not, decide_eq_true_eq] at h1
  exact h1.resolve_left (fun q => q h)
end ZM
theorem zsw_mono {x : Int32} {K K1 : Nat → Prop} {b : Nat} : ∀ (tg : List (Int32 × Nat)), (∀ t, K t → K1 t) → zsw x K b tg → zsw x K1 b tg
  | [], hk, h => hk _ h
  | (v, t) :: r, hk, h => ⟨fun q => hk _ (h.1 q), fun q => zsw_mono r hk (h.2 q)⟩
set_option maxHeartbeats 4000000 in
set_option maxRecDepth 100000 in
theorem zstep_sound {G : zG} {d y nx0 nxE : Nat} {p : Program} {l : Launch} {e : Env} {R : Room} {s : State} {m : MethodId} {args : Array Value} {below : List Frame} {meth : Method} {c : Code} {Qm : State → Prop} {cp cpE : Nat → Bool} {nx pc : Nat} {ls : List (Option zV)} {st : List zV} {σ : zS} {Q : zQ} {F : zF} {cd r : List (Nat × zIn)} {op len a b idx : Nat} {imm : Int32} {tg : List (Int32 × Nat)}
    (hC : zCx G d y nx0 nxE p R s m args meth c) (hyo : (zmt y).1.cls = zown (zmo y)) (hok : zick (zmt y).2.1 y (pc, op, len, imm, a, b, idx, tg) = true)
    (hF : ∀ cp nx pc ls st σ, F cp nx pc r ls st σ → zJ G (zmt y).2.2.1 nx0 nxE p l e R s m args below meth c Qm cp nx pc ls st σ)
    (hG : ∀ t cp nx pc ls st σ, F cp nx pc (zseek cd t) ls st σ → zJ G (zmt y).2.2.1 nx0 nxE p l e R s m args below meth c Qm cp nx pc ls st σ)
    (hEnd : ∀ (v : Option zV) (σ1 : zS) (pc1 : Nat) (ls1 : List (Option zV)), Q v σ1 → zrt y v pc1 → zJ G (zmt y).2.2.1 nx0 nxE p l e R s m args below meth c Qm cpE nxE pc1 ls1 v.toList σ1)
    (h : zstep F cd d cpE nxE Q cp nx pc r ls st σ op len imm a b tg) : zJ G (zmt y).2.2.1 nx0 nxE p l e R s m args below meth c Qm cp nx pc ls st σ := by
  have hx := hC.1
  have hb := hC.2.1
  have hown : s.vm.findClass (zown (zmo y)) = some m.cls := by rw [← hyo]; exact hC.2.2.2.1
  have hts := hC.2.2.2.2.1
  unfold zick at hok
  simp only [Bool.and_eq_true, decide_eq_true_eq] at hok
  obtain ⟨hd, hl, hln⟩ := hok
  match op, hd, hl, hln, h with
  | 0, hd, hl, hln, h => have e := zbeq (a := len) (b := 1) hln; subst e; exact zj_iconst hx hb hd (hF _ _ _ _ _ _ h)
  | 1, hd, hl, hln, h => have e := zbeq (a := len) (b := 2) hln; subst e; exact zj_bipush hx hb (of_decide_eq_true hl) hd (hF _ _ _ _ _ _ h)
  | 2, hd, hl, hln, h => have e := zbeq (a := len) (b := 3) hln; subst e; exact zj_sipush hx hb (of_decide_eq_true hl) hd (hF _ _ _ _ _ _ h)
  | 3, hd, hl, hln, h => have e := zbeq (a := len) (b := 2) hln; subst e; exact zj_ldc hx hb hown (hts _ (zcn_of hl)) hd (hF _ _ _ _ _ _ h)
  | 4, hd, hl, hln, h => have e := zbeq (a := len) (b := 3) hln; subst e; exact zj_ldcw hx hb hown (hts _ (zcn_of hl)) hd (hF _ _ _ _ _ _ h)
  | 5, hd, hl, hln, h =>
    have e := zbeq (a := len) (b := 1) hln; subst e
    change (match ls[a]? with | some (some (.inl x)) => _ | _ => False) at h
    split at h
    · rename_i x hq
      exact zj_iload_n hx hb hl hq hd (hF _ _ _ _ _ _ h)
    · exact h.elim
  | 6, hd, hl, hln, h =>
    have e := zbeq (a := len) (b := 2) hln; subst e
    change (match ls[a]? with | some (some (.inl x)) => _ | _ => False) at h
    split at h
    · rename_i x hq
      exact zj_iload hx hb hq hd (hF _ _ _ _ _ _ h)
    · exact h.elim
  | 7, hd, hl, hln, h =>
    have e := zbeq (a := len) (b := 1) hln; subst e
    change (match ls[a]? with | some (some (.inr x)) => _ | _ => False) at h
    split at h
    · rename_i x hq
      exact zj_aload_n hx hb hl hq hd (hF _ _ _ _ _ _ h)
    · exact h.elim
  | 8, hd, hl, hln, h =>
    have e := zbeq (a := len) (b := 2) hln; subst e
    change (match ls[a]? with | some (some (.inr x)) => _ | _ => False) at h
    split at h
    · rename_i x hq
      exact zj_aload hx hb hq hd (hF _ _ _ _ _ _ h)
    · exact h.elim
  | 9, hd, hl, hln, h =>
    have e := zbeq (a := len) (b := 1) hln; subst e
    match st, h with
    | .inl x :: st, h =>
      change (match ls[a]? with | some _ => _ | none => False) at h
      split at h
      · rename_i hq
        exact zj_istore_n hx hb hl hq hd (hF _ _ _ _ _ _ h)
      · exact h.elim
  | 10, hd, hl, hln, h =>
    have e := zbeq (a := len) (b := 2) hln; subst e
    match st, h with
    | .inl x :: st, h =>
      change (match ls[a]? with | some _ => _ | none => False) at h
      split at h
      · rename_i hq
        exact zj_istore hx hb hq hd (hF _ _ _ _ _ _ h)
      · exact h.elim
  | 11, hd, hl, hln, h =>
    have e := zbeq (a := len) (b := 1) hln; subst e
    match st, h with
    | .inr x :: st, h =>
      change (match ls[a]? with | some _ => _ | none => False) at h
      split at h
      · rename_i hq
        exact zj_astore_n hx hb hl hq hd (hF _ _ _ _ _ _ h)
      · exact h.elim
  | 12, hd, hl, hln, h =>
    have e := zbeq (a := len) (b := 2) hln; subst e
    match st, h with
    | .inr x :: st, h =>
      change (match ls[a]? with | some _ => _ | none => False) at h
      split at h
      · rename_i hq
        exact zj_astore hx hb hq hd (hF _ _ _ _ _ _ h)
      · exact h.elim
  | 13, hd, hl, hln, h =>
    have e := zbeq (a := len) (b := 3) hln; subst e
    change (match ls[a]? with | some (some (.inl x)) => _ | _ => False) at h
    split at h
    · rename_i x hq
      exact zj_iinc hx hb hq hd (hF _ _ _ _ _ _ h)
    · exact h.elim
  | 14, hd, hl, hln, h =>
    have e := zbeq (a := len) (b := 1) hln; subst e
    match st, h with
    | .inl z :: .inl x :: st, h => exact zj_iadd hx hb hd (hF _ _ _ _ _ _ h)
  | 15, hd, hl, hln, h =>
    have e := zbeq (a := len) (b := 1) hln; subst e
    match st, h with
    | .inl z :: .inl x :: st, h => exact zj_isub hx hb hd (hF _ _ _ _ _ _ h)
  | 16, hd, hl, hln, h =>
    have e := zbeq (a := len) (b := 1) hln; subst e
    match st, h with
    | .inl z :: .inl x :: st, h => exact zj_imul hx hb hd (hF _ _ _ _ _ _ h)
  | 17, hd, hl, hln, h =>
    have e := zbeq (a := len) (b := 1) hln; subst e
    match st, h with
    | .inl z :: .inl x :: st, h => exact zj_iand hx hb hd (hF _ _ _ _ _ _ h)
  | 18, hd, hl, hln, h =>
    have e := zbeq (a := len) (b := 1) hln; subst e
    match st, h with
    | .inl z :: .inl x :: st, h => exact zj_ior hx hb hd (hF _ _ _ _ _ _ h)
  | 19, hd, hl, hln, h =>
    have e := zbeq (a := len) (b := 1) hln; subst e
    match st, h with
    | .inl z :: .inl x :: st, h => exact zj_ishl hx hb hd (hF _ _ _ _ _ _ h)
  | 20, hd, hl, hln, h =>
    have e := zbeq (a := len) (b := 1) hln; subst e
    match st, h with
    | .inl z :: .inl x :: st, h => exact zj_ishr hx hb hd (hF _ _ _ _ _ _ h)
  | 21, hd, hl, hln, h =>
    have e := zbeq (a := len) (b := 1) hln; subst e
    match st, h with
    | .inl z :: .inl x :: st, h => exact zj_iushr hx hb hd (hF _ _ _ _ _ _ h)
  | 22, hd, hl, hln, h =>
    have e := zbeq (a := len) (b := 1) hln; subst e
    match st, h with
    | .inl z :: .inl x :: st, h => exact zj_idiv hx hb h.1 hd (hF _ _ _ _ _ _ h.2)
  | 23, hd, hl, hln, h =>
    have e := zbeq (a := len) (b := 1) hln; subst e
    match st, h with
    | .inl z :: .inl x :: st, h => exact zj_irem hx hb h.1 hd (hF _ _ _ _ _ _ h.2)
  | 24, hd, hl, hln, h =>
    have e := zbeq (a := len) (b := 1) hln; subst e
    match st, h with
    | .inl x :: st, h => exact zj_ineg hx hb hd (hF _ _ _ _ _ _ h)
  | 25, hd, hl, hln, h =>
    have e := zbeq (a := len) (b := 1) hln; subst e
    match st, h with
    | .inl x :: st, h => exact zj_i2b hx hb hd (hF _ _ _ _ _ _ h)
  | 26, hd, hl, hln, h =>
    have e := zbeq (a := len) (b := 1) hln; subst e
    match st, h with
    | .inl x :: st, h => exact zj_i2c hx hb hd (hF _ _ _ _ _ _ h)
  | 27, hd, hl, hln, h =>
    have e := zbeq (a := len) (b := 1) hln; subst e
    match st, h with
    | v :: st, h => exact zj_dup hx hb hd (hF _ _ _ _ _ _ h)
  | 28, hd, hl, hln, h =>
    have e := zbeq (a := len) (b := 1) hln; subst e
    match st, h with
    | v :: w :: st, h => exact zj_dup2 hx hb hd (hF _ _ _ _ _ _ h)
  | 29, hd, hl, hln, h =>
    have e := zbeq (a := len) (b := 1) hln; subst e
    match st, h with
    | v :: st, h => exact zj_pop hx hb hd (hF _ _ _ _ _ _ h)
  | 30, hd, hl, hln, h =>
    have e := zbeq (a := len) (b := 3) hln; subst e
    match st, h with
    | .inl x :: st, h => exact zj_if_eq hx hb hd (fun q => hG _ _ _ _ _ _ _ (h.1 q)) (fun q => hF _ _ _ _ _ _ (h.2 q))
  | 31, hd, hl, hln, h =>
    have e := zbeq (a := len) (b := 3) hln; subst e
    match st, h with
    | .inl x :: st, h => exact zj_if_ne hx hb hd (fun q => hG _ _ _ _ _ _ _ (h.1 q)) (fun q => hF _ _ _ _ _ _ (h.2 q))
  | 32, hd, hl, hln, h =>
    have e := zbeq (a := len) (b := 3) hln; subst e
    match st, h with
    | .inl x :: st, h => exact zj_if_lt hx hb hd (fun q => hG _ _ _ _ _ _ _ (h.1 q)) (fun q => hF _ _ _ _ _ _ (h.2 q))
  | 33, hd, hl, hln, h =>
    have e := zbeq (a := len) (b := 3) hln; subst e
    match st, h with
    | .inl x :: st, h => exact zj_if_ge hx hb hd (fun q => hG _ _ _ _ _ _ _ (h.1 q)) (fun q => hF _ _ _ _ _ _ (h.2 q))
  | 34, hd, hl, hln, h =>
    have e := zbeq (a := len) (b := 3) hln; subst e
    match st, h with
    | .inl x :: st, h => exact zj_if_gt hx hb hd (fun q => hG _ _ _ _ _ _ _ (h.1 q)) (fun q => hF _ _ _ _ _ _ (h.2 q))
  | 35, hd, hl, hln, h =>
    have e := zbeq (a := len) (b := 3) hln; subst e
    match st, h with
    | .inl x :: st, h => exact zj_if_le hx hb hd (fun q => hG _ _ _ _ _ _ _ (h.1 q)) (fun q => hF _ _ _ _ _ _ (h.2 q))
  | 36, hd, hl, hln, h =>
    have e := zbeq (a := len) (b := 3) hln; subst e
    match st, h with
    | .inl z :: .inl x :: st, h => exact zj_icmp_eq hx hb hd (fun q => hG _ _ _ _ _ _ _ (h.1 q)) (fun q => hF _ _ _ _ _ _ (h.2 q))
  | 37, hd, hl, hln, h =>
    have e := zbeq (a := len) (b := 3) hln; subst e
    match st, h with
    | .inl z :: .inl x :: st, h => exact zj_icmp_ne hx hb hd (fun q => hG _ _ _ _ _ _ _ (h.1 q)) (fun q => hF _ _ _ _ _ _ (h.2 q))
  | 38, hd, hl, hln, h =>
    have e := zbeq (a := len) (b := 3) hln; subst e
    match st, h with
    | .inl z :: .inl x :: st, h => exact zj_icmp_lt hx hb hd (fun q => hG _ _ _ _ _ _ _ (h.1 q)) (fun q => hF _ _ _ _ _ _ (h.2 q))
  | 39, hd, hl, hln, h =>
    have e := zbeq (a := len) (b := 3) hln; subst e
    match st, h with
    | .inl z :: .inl x :: st, h => exact zj_icmp_ge hx hb hd (fun q => hG _ _ _ _ _ _ _ (h.1 q)) (fun q => hF _ _ _ _ _ _ (h.2 q))
  | 40, hd, hl, hln, h =>
    have e := zbeq (a := len) (b := 3) hln; subst e
    match st, h with
    | .inl z :: .inl x :: st, h => exact zj_icmp_gt hx hb hd (fun q => hG _ _ _ _ _ _ _ (h.1 q)) (fun q => hF _ _ _ _ _ _ (h.2 q))
  | 41, hd, hl, hln, h =>
    have e := zbeq (a := len) (b := 3) hln; subst e
    match st, h with
    | .inl z :: .inl x :: st, h => exact zj_icmp_le hx hb hd (fun q => hG _ _ _ _ _ _ _ (h.1 q)) (fun q => hF _ _ _ _ _ _ (h.2 q))
  | 42, hd, hl, hln, h =>
    have e := zbeq (a := len) (b := 3) hln; subst e
    exact zj_goto hx hb hd (hG _ _ _ _ _ _ _ h)
  | 43, hd, hl, hln, h =>
    change (!tg.isEmpty && _) = true at hl
    simp only [Bool.and_eq_true, Bool.not_eq_true'] at hl
    match st, h with
    | .inl x :: st, h => exact zj_table hx hb hl.1 hl.2 hd (zsw_mono tg (fun t q => hG t _ _ _ _ _ _ q) h)
  | 44, hd, hl, hln, h =>
    match st, h with
    | .inl x :: st, h => exact zj_lookup hx hb hl hd (zsw_mono tg (fun t q => hG t _ _ _ _ _ _ q) h)
  | 45, hd, hl, hln, h =>
    have e := zbeq (a := len) (b := 3) hln; subst e
    change (zflL.any _ && Nat.beq (zfk a b).1 0) = true at hl
    simp only [Bool.and_eq_true] at hl
    match st, h with
    | .inr (t, n, o) :: st, h =>
      obtain ⟨ht, h⟩ := zcond h
      exact zj_getI hC hyo hl.1 (zbeq hl.2) (zbeq ht) hd (hF _ _ _ _ _ _ h)
  | 46, hd, hl, hln, h =>
    have e := zbeq (a := len) (b := 3) hln; subst e
    change (zflL.any _ && Nat.beq (zfk a b).1 1) = true at hl
    simp only [Bool.and_eq_true] at hl
    match st, h with
    | .inr (t, n, o) :: st, h =>
      obtain ⟨ht, h⟩ := zcond h
      cases hcp : cp o with
      | true =>
        rw [hcp] at h
        exact zj_getF hC hyo hl.1 (zbeq hl.2) (zbeq ht) hcp hd (hF _ _ _ _ _ _ h)
      | false =>
        rw [hcp] at h
        exact zj_getM hC hyo hl.1 (by rw [zbeq hl.2]; decide) (fun _ => hcp) (zbeq ht) h.1 hd (fun q hq => hF _ _ _ _ _ _ (h.2 q hq))
  | 47, hd, hl, hln, h =>
    have e := zbeq (a := len) (b := 3) hln; subst e
    change (zflL.any _ && Nat.beq (zfk a b).1 2) = true at hl
    simp only [Bool.and_eq_true] at hl
    match st, h with
    | .inr (t, n, o) :: st, h =>
      obtain ⟨ht, h⟩ := zcond h
      exact zj_getM hC hyo hl.1 (by rw [zbeq hl.2]; decide) (fun q => by rw [zbeq hl.2] at q; cases q) (zbeq ht) h.1 hd (fun q hq => hF _ _ _ _ _ _ (h.2 q hq))
  | 48, hd, hl, hln, h =>
    have e := zbeq (a := len) (b := 3) hln; subst e
    change (zflL.any _ && Nat.beq (zfk a b).1 0) = true at hl
    simp only [Bool.and_eq_true] at hl
    match st, h with
    | .inl x :: .inr (t, n, o) :: st, h =>
      obtain ⟨ht, h⟩ := zcond h
      exact zj_putI hC hyo hl.1 (zbeq hl.2) (zbeq ht) hd (hF _ _ _ _ _ _ h)
  | 49, hd, hl, hln, h =>
    have e := zbeq (a := len) (b := 3) hln; subst e
    change (zflL.any _ && Nat.beq (zfk a b).1 2) = true at hl
    simp only [Bool.and_eq_true] at hl
    match st, h with
    | .inr (ft, fl, q) :: .inr (t, n, o) :: st, h =>
      obtain ⟨ht, h⟩ := zcond h
      exact zj_putR hC hyo hl.1 (Or.inl (zbeq hl.2)) (zbeq ht) h.1 hd (hF _ _ _ _ _ _ h.2)
  | 50, hd, hl, hln, h =>
    have e := zbeq (a := len) (b := 3) hln; subst e
    change (zflL.any _ && Nat.beq (zfk a b).1 1 && Nat.beq (zmo y) a && decide ((zmt y).1.name = "<init>")) = true at hl
    simp only [Bool.and_eq_true, decide_eq_true_eq] at hl
    match st, h with
    | .inr (ft, fl, q) :: .inr (t, n, o) :: st, h =>
      obtain ⟨ht, h⟩ := zcond h
      exact zj_putR hC hyo hl.1.1.1 (Or.inr ⟨zbeq hl.1.1.2, h.2.1, zbeq hl.1.2, hl.2⟩) (zbeq ht) h.1 hd (hF _ _ _ _ _ _ h.2.2)
  | 51, hd, hl, hln, h =>
    have e := zbeq (a := len) (b := 1) hln; subst e
    match st, h with
    | .inl i :: .inr (t, n, o) :: st, h =>
      obtain ⟨ht, h⟩ := zcond h
      simp only [Bool.or_eq_true] at ht
      exact zj_iald hC (ht.imp zbeq zbeq) h.1 hd (hF _ _ _ _ _ _ h.2)
  | 52, hd, hl, hln, h =>
    have e := zbeq (a := len) (b := 1) hln; subst e
    match st, h with
    | .inl i :: .inr (t, n, o) :: st, h =>
      obtain ⟨ht, h⟩ := zcond h
      simp only [Bool.or_eq_true] at ht
      exact zj_bald hC (ht.imp zbeq zbeq) h.1 hd (hF _ _ _ _ _ _ h.2)
  | 53, hd, hl, hln, h =>
    have e := zbeq (a := len) (b := 1) hln; subst e
    match st, h with
    | .inl x :: .inl i :: .inr (t, n, o) :: st, h =>
      obtain ⟨ht, h⟩ := zcond h
      exact zj_iast hC (zbeq ht) h.1 hd (hF _ _ _ _ _ _ h.2)
  | 54, hd, hl, hln, h =>
    have e := zbeq (a := len) (b := 1) hln; subst e
    match st, h with
    | .inl x :: .inl i :: .inr (t, n, o) :: st, h =>
      cases h21 : Nat.beq t 21 with
      | true =>
        change (bif Nat.beq t 21 then _ else _) at h
        rw [h21] at h
        exact zj_bast hC (zbeq h21) h.1 hd (hF _ _ _ _ _ _ h.2)
      | false =>
        change (bif Nat.beq t 21 then _ else _) at h
        rw [h21] at h
        obtain ⟨ht, h⟩ := zcond h
        exact zj_zast hC (zbeq ht) h.1 hd (hF _ _ _ _ _ _ h.2)
  | 55, hd, hl, hln, h =>
    have e := zbeq (a := len) (b := 1) hln; subst e
    match st, h with
    | .inl i :: .inr (t, n, o) :: st, h =>
      obtain ⟨ht, h⟩ := zcond h
      simp only [Bool.or_eq_true] at ht
      exact zj_aald hC (by rcases ht with (h | h) | h; exact Or.inl (zbeq h); exact Or.inr (Or.inl (zbeq h)); exact Or.inr (Or.inr (zbeq h))) h.1 h.2.1 hd (fun q hq => hF _ _ _ _ _ _ (h.2.2 q hq))
  | 56, hd, hl, hln, h =>
    have e := zbeq (a := len) (b := 1) hln; subst e
    match st, h with
    | .inr (ft, fl, q) :: .inl i :: .inr (t, n, o) :: st, h =>
      obtain ⟨ht, h⟩ := zcond h
      simp only [Bool.or_eq_true, Bool.and_eq_true] at ht
      exact zj_aast hC (by rcases ht with (h | h) | h; exact Or.inl ⟨zbeq h.1, zbeq h.2⟩; exact Or.inr (Or.inl ⟨zbeq h.1, zbeq h.2⟩); exact Or.inr (Or.inr ⟨zbeq h.1, zbeq h.2⟩)) h.1 hd (hF _ _ _ _ _ _ h.2)
  | 57, hd, hl, hln, h =>
    have e := zbeq (a := len) (b := 1) hln; subst e
    match st, h with
    | .inr (t, n, o) :: st, h =>
      obtain ⟨ht, h⟩ := zcond h
      simp only [Bool.and_eq_true] at ht
      exact zj_alen hC ⟨zble ht.1, zble ht.2⟩ hd (hF _ _ _ _ _ _ h)
  | 58, hd, hl, hln, h =>
    have e := zbeq (a := len) (b := 2) hln; subst e
    change (Nat.beq a 20 || Nat.beq a 21 || Nat.beq a 22) = true at hl
    simp only [Bool.or_eq_true] at hl
    match st, h with
    | .inl x :: st, h => exact zj_newa hC (by rcases hl with (h | h) | h; exact Or.inl (zbeq h); exact Or.inr (Or.inl (zbeq h)); exact Or.inr (Or.inr (zbeq h))) h.1 h.2.1 h.2.2.1 hd (hF _ _ _ _ _ _ h.2.2.2)
  | 59, hd, hl, hln, h =>
    have e := zbeq (a := len) (b := 3) hln; subst e
    change (zclL.any _ && ((Nat.beq a 23 && Nat.beq b 4) || (Nat.beq a 24 && Nat.beq b 5) || (Nat.beq a 25 && Nat.beq b 7))) = true at hl
    simp only [Bool.or_eq_true, Bool.and_eq_true] at hl
    match st, h with
    | .inl x :: st, h => exact zj_newq hC hyo hl.1 (by rcases hl.2 with (h | h) | h; exact Or.inl ⟨zbeq h.1, zbeq h.2⟩; exact Or.inr (Or.inl ⟨zbeq h.1, zbeq h.2⟩); exact Or.inr (Or.inr ⟨zbeq h.1, zbeq h.2⟩)) h.1 h.2.1 h.2.2.1 hd (hF _ _ _ _ _ _ h.2.2.2)
  | 60, hd, hl, hln, h =>
    have e := zbeq (a := len) (b := 3) hln; subst e
    change (zclL.any _ && Nat.blt a 10) = true at hl
    simp only [Bool.and_eq_true] at hl
    change (match zcl[a]? with | some q => _ | none => False) at h
    split at h
    · rename_i q hq
      exact zj_new hC hyo hl.1 hq h.1 h.2.1 h.2.2.1 hd (hF _ _ _ _ _ _ h.2.2.2)
    · exact h.elim
  | 61, hd, hl, hln, h =>
    have e := zbeq (a := len) (b := 3) hln; subst e
    change (zmlL.any _ && !(zms a) && decide ((zmt a).1.name ≠ "<init>") && Nat.beq ((zmp a).2.2.2.2 + 1) b && Nat.blt (zmo a) 10) = true at hl
    simp only [Bool.and_eq_true, Bool.not_eq_true', decide_eq_true_eq] at hl
    obtain ⟨⟨⟨⟨l1, l2⟩, l3⟩, l4⟩, l5⟩ := hl
    obtain ⟨m1, m2⟩ := zml_of l1
    refine zst_c_of (idx := idx) hC hF rfl (fun d1 av rest Q1 e1 e2 e3 e4 e5 e6 e7 => ?_) h
    obtain ⟨n, o, as, rfl⟩ := zhd_of (e5 rfl)
    subst e1
    exact zj_callV hC hyo rfl m1 m2 l2 l3 rfl (zblt l5) (by have := zbeq l4; simp only [List.length_cons] at e2; omega) e3 e4 hd e6 e7
  | 62, hd, hl, hln, h =>
    have e := zbeq (a := len) (b := 3) hln; subst e
    change (zmlL.any _ && zms a && Nat.beq (zmp a).2.2.2.2 b) = true at hl
    simp only [Bool.and_eq_true] at hl
    obtain ⟨⟨l1, l2⟩, l3⟩ := hl
    obtain ⟨m1, m2⟩ := zml_of l1
    refine zst_c_of (idx := idx) hC hF rfl (fun d1 av rest Q1 e1 e2 e3 e4 e5 e6 e7 => ?_) h
    subst e1
    exact zj_callS hC hyo rfl m1 m2 l2 (zbeq l3) e2 e3 e4 hd e6 e7
  | 63, hd, hl, hln, h =>
    have e := zbeq (a := len) (b := 3) hln; subst e
    change (zmlL.any _ && !(zms a) && decide ((zmt a).1.name = "<init>") && Nat.beq ((zmp a).2.2.2.2 + 1) b) = true at hl
    simp only [Bool.and_eq_true, Bool.not_eq_true', decide_eq_true_eq] at hl
    obtain ⟨⟨⟨l1, l2⟩, l3⟩, l4⟩ := hl
    obtain ⟨m1, m2⟩ := zml_of l1
    refine zst_i_of (idx := idx) hC hF rfl (fun d1 t n o nx1 cp1 av rest Q1 e1 e2 e3 e4 e5 e6 e7 => ?_) h
    subst e1
    exact zj_callI hC hyo rfl m1 (Or.inl m2) l2 l3 (zinit_ret m1 l3) (by have := zbeq l4; omega) e3 e4 e5 hd e6 e7
  | 64, hd, hl, hln, h =>
    have e := zbeq (a := len) (b := 3) hln; subst e
    match st, h with
    | .inr q :: st, h =>
      match d, hC, h with
      | d1 + 1, hC, h =>
        obtain ⟨h8, h⟩ := zcond h
        exact zj_obj hC hyo (of_decide_eq_true hl) (by omega) (zble h8) rfl hd (hF _ _ _ _ _ _ h)
  | 65, hd, hl, hln, h =>
    have e := zbeq (a := len) (b := 3) hln; subst e
    change (znlL.any _ && zms a && Nat.beq (zmp a).2.2.2.2 b) = true at hl
    simp only [Bool.and_eq_true] at hl
    obtain ⟨⟨l1, l2⟩, l3⟩ := hl
    obtain ⟨m1, m2⟩ := znl_of l1
    refine zst_c_of (idx := idx) hC hF rfl (fun d1 av rest Q1 e1 e2 e3 e4 e5 e6 e7 => ?_) h
    subst e1
    exact zj_callSN hC hyo rfl m1 m2 l2 (zbeq l3) e2 e3 e4 hd e6 e7
  | 66, hd, hl, hln, h =>
    have e := zbeq (a := len) (b := 3) hln; subst e
    change (znlL.any _ && !(zms a) && decide ((zmt a).1.name = "<init>") && Nat.beq ((zmp a).2.2.2.2 + 1) b) = true at hl
    simp only [Bool.and_eq_true, Bool.not_eq_true', decide_eq_true_eq] at hl
    obtain ⟨⟨⟨l1, l2⟩, l3⟩, l4⟩ := hl
    obtain ⟨m1, m2⟩ := znl_of l1
    refine zst_i_of (idx := idx) hC hF rfl (fun d1 t n o nx1 cp1 av rest Q1 e1 e2 e3 e4 e5 e6 e7 => ?_) h
    subst e1
    exact zj_callI hC hyo rfl m1 (Or.inr m2) l2 l3 (zinit_ret m1 l3) (by have := zbeq l4; omega) e3 e4 e5 hd e6 e7
  | 67, hd, hl, hln, h =>
    have e := zbeq (a := len) (b := 3) hln; subst e
    match st, h with
    | .inl z :: .inl x :: st, h =>
      match d, hC, h with
      | d1 + 1, hC, h =>
        obtain ⟨h8, h⟩ := zcond h
        exact zj_min hC hyo (of_decide_eq_true hl) (by omega) (zble h8) rfl hd (hF _ _ _ _ _ _ h)
  | 68, hd, hl, hln, h =>
    have e := zbeq (a := len) (b := 3) hln; subst e
    match st, h with
    | .inl z :: .inl x :: st, h =>
      match d, hC, h with
      | d1 + 1, hC, h =>
        obtain ⟨h8, h⟩ := zcond h
        exact zj_max hC hyo (of_decide_eq_true hl) (by omega) (zble h8) rfl hd (hF _ _ _ _ _ _ h)
  | 69, hd, hl, hln, h =>
    have e := zbeq (a := len) (b := 3) hln; subst e
    match st, h with
    | .inl n :: .inl dp :: .inr (t1, n1, o1) :: .inl sp :: .inr (t0, n0, o0) :: st, h =>
      match d, hC, h with
      | d1 + 1, hC, h =>
        obtain ⟨h8, hh⟩ := zcond h
        simp only [Bool.and_eq_true] at h8
        have e0 := zbeq h8.1.1
        have e1 := zbeq h8.1.2
        subst e0
        subst e1
        exact zj_copy hC hyo (of_decide_eq_true hl) (by omega) (zble h8.2) rfl hh.1 hh.2.1 hh.2.2.1 hh.2.2.2.1 hh.2.2.2.2.1 hd (hF _ _ _ _ _ _ hh.2.2.2.2.2)
  | 70, hd, hl, hln, h =>
    have e := zbeq (a := len) (b := 1) hln; subst e
    match st, h with
    | [.inl x], h =>
      obtain ⟨rfl, rfl, hq⟩ := h
      exact hEnd (some (.inl x)) σ pc ls hq ⟨hd, Or.inl (of_decide_eq_true hl)⟩
  | 71, hd, hl, hln, h =>
    have e := zbeq (a := len) (b := 1) hln; subst e
    match st, h with
    | [.inl x], h =>
      obtain ⟨rfl, rfl, hx01, hq⟩ := h
      exact hEnd (some (.inl x)) σ pc ls hq ⟨hd, Or.inr ⟨of_decide_eq_true hl, hx01⟩⟩
  | 72, hd, hl, hln, h =>
    have e := zbeq (a := len) (b := 1) hln; subst e
    match st, h with
    | [.inr q], h =>
      obtain ⟨rfl, rfl, hq⟩ := h
      refine hEnd (some (.inr q)) σ pc ls hq ⟨hd, ?_⟩
      change (match (zmt y).2.2.2 with | some (.object _) => true | _ => false) = true at hl
      split at hl
      · rename_i n hn
        exact ⟨n, hn⟩
      · cases hl
  | 73, hd, hl, hln, h =>
    have e := zbeq (a := len) (b := 1) hln; subst e
    match st, h with
    | [], h =>
      obtain ⟨rfl, rfl, hq⟩ := h
      exact hEnd none σ pc ls hq ⟨hd, of_decide_eq_true hl⟩
  | 74, hd, hl, hln, h =>
    have e := zbeq (a := len) (b := 3) hln; subst e
    change (decide _ && Nat.blt a 3) = true at hl
    simp only [Bool.and_eq_true, decide_eq_true_eq] at hl
    exact zj_gets hC hyo (zblt hl.2) hl.1 hd (hF _ _ _ _ _ _ h)
  | 75, hd, hl, hln, h =>
    have e := zbeq (a := len) (b := 3) hln; subst e
    change (Nat.beq (zmo y) 0 && Nat.beq idx 9 && Nat.beq a 0) = true at hl
    simp only [Bool.and_eq_true] at hl
    have ha := zbeq hl.2
    have hi := zbeq hl.1.2
    subst ha
    subst hi
    exact zj_getsN hC hyo (zbeq hl.1.1) hd (hF _ _ _ _ _ _ h)
  | op + 76, hd, hl, hln, h => exact h.elim
/-- a run of steps -/
theorem zseek_sub {cd : List (Nat × zIn)} {t : Nat} : ∀ q ∈ zseek cd t, q ∈ cd := fun q hq => (List.dropWhile_sublist _).subset hq
theorem zvc_sound {d y nxE : Nat} {cpE : Nat → Bool} {Q : zQ} {cd : List (Nat × zIn)} {cs : List Nat} (hyo : (zmt y).1.cls = zown (zmo y)) (hcd : ∀ q ∈ cd, zick (zmt y).2.1 y q = true) :
    ∀ (n : Nat) (cp : Nat → Bool) (nx pc : Nat) (pos : List (Nat × zIn)) (ls : List (Option zV)) (st : List zV) (σ : zS), (∀ q ∈ pos, q ∈ cd) → zvc cd cs d y cpE nxE Q n cp nx pc pos ls st σ → zWp d cpE nxE y Q cp nx pc ls st σ
  | 0, _, _, _, _, _, _, _, _, h => h.elim
  | n + 1, cp, nx, pc, pos, ls, st, σ, hsub, h => by
    intro G nx0 p l e R s m args below meth c Qm hC hEnd
    match pos, hsub, h with
    | (pc0, op, len, imm, a, b, idx, tg) :: r, hsub, h =>
      obtain ⟨hpc0, hh⟩ := zcond h
      have hpc := zbeq hpc0
      subst hpc
      have step : ∀ (pos1 : List (Nat × zIn)), (∀ q ∈ pos1, q ∈ cd) → ∀ cp nx pc ls st σ, (bif cs.contains pc then zWp d cpE nxE y Q cp nx pc ls st σ else zvc cd cs d y cpE nxE Q n cp nx pc pos1 ls st σ) → zJ G (zmt y).2.2.1 nx0 nxE p l e R s m args below meth c Qm cp nx pc ls st σ := by
        intro pos1 hp1 cp nx pc ls st σ hh
        cases hcs : cs.contains pc with
        | true =>
          rw [hcs] at hh
          exact hh G nx0 p l e R s m args below meth c Qm hC hEnd
        | false =>
          rw [hcs] at hh
          exact zvc_sound hyo hcd n cp nx pc pos1 ls st σ hp1 hh G nx0 p l e R s m args below meth c Qm hC hEnd
      exact zstep_sound (F := fun cp nx pc pos ls st σ => bif cs.contains pc then zWp d cpE nxE y Q cp nx pc ls st σ else zvc cd cs d y cpE nxE Q n cp nx pc pos ls st σ) (cd := cd) hC hyo (hcd _ (hsub _ List.mem_cons_self)) (step r (fun q hq => hsub q (List.mem_cons_of_mem _ hq))) (fun t => step (zseek cd t) zseek_sub) (fun v σ1 pc1 ls1 hq hr => hEnd v σ1 pc1 ls1 hq hr) hh
/-- a method's contract out of its walk -/
theorem zargs_mem {G : zG} : ∀ (av : List zV) (k i : Nat) (v : zV), av[i]? = some v → (k + i, zval G v) ∈ lv_args k (av.map (zval G))
  | [], _, i, v, h => by cases h
  | w :: av, k, 0, v, h => by
    cases h
    exact List.mem_cons_self
  | w :: av, k, i + 1, v, h => by
    show _ ∈ (k, zval G w) :: lv_args (if (zval G w).category = 2 then k + 2 else k + 1) (av.map (zval G))
    rw [if_neg (by rw [zval_cat]; decide)]
    have := zargs_mem (G := G) av (k + 1) i v h
    rw [show k + 1 + i = k + (i + 1) by omega] at this
    exact List.mem_cons_of_mem _ this
theorem zsl_args {G : zG} (av : List zV) : (lg_sl (av.map (zval G))).length = av.length := by
  induction av with
  | nil => rfl
  | cons w av ih =>
    have : lg_sl ((w :: av).map (zval G)) = .val (zval G w) :: lg_sl (av.map (zval G)) := by
      simp only [lg_sl, List.map_cons, List.flatMap_cons]
      rw [if_neg (by rw [zval_cat]; decide)]
      rfl
    rw [this, List.length_cons, ih, List.length_cons]
def zlc (n : Nat) (av : List zV) : List (Option zV) := av.map some ++ List.replicate (n - av.length) none
theorem zCl.of {d nx nxE y : Nat} {cp cpE : Nat → Bool} {av : List zV} {σ : zS} {Q : zQ} (hy : y < 297) (hnx : nx ≤ nxE) (hlen : av.length ≤ (zmt y).2.2.1) (h : zWp d cpE nxE y Q cp nx 0 (zlc (zmt y).2.2.1 av) [] σ) : zCl d cp nx cpE nxE y av σ Q := by
  refine ⟨d, Nat.le_refl d, hnx, zsl_mono hnx, fun l G => ?_⟩
  refine Met.ofW (cc := (zmt y).2.1) (maxL := (zmt y).2.2.1) (ret := (zmt y).2.2.2) (zm_all y hy).2.2.2.2.2.2.2.2.2 rfl ?_
  intro p e s m args below meth c s₁ B hml hv
  obtain ⟨rfl, hRep, hK, hok⟩ := hv
  have hts := atoms_spec (ws := zwd y) B.pre
  have hl := lv_entry (av.map (zval G)) (n := (zmt y).2.2.1) (by rw [zsl_args]; exact hlen)
  rw [lg_entry_eq]
  generalize (lg_sl (av.map (zval G)) ++ List.replicate ((zmt y).2.2.1 - (lg_sl (av.map (zval G))).length) Slot.unset).toArray = lsA at hl ⊢
  have hC : zCx G d y nx nxE p (headSpec (zwd y) (zrm d nx nxE)).room s m (av.map (zval G)).toArray meth c := ⟨B.exec, B.bytes, hml, findClass_of_methodNamed B.named, fun w hw => hts w (List.mem_cons_of_mem _ hw), hK, hRep.1, Nat.le_refl _, Nat.le_refl _, Nat.le_refl _, Nat.le_refl _, (name_of_methodNamed B.named B.method).1, B.returns⟩
  have hA : ∀ q : Nat, s.heap.size ≤ q → zA G q := fun q hq => by
    show G.2.2.1 ≤ q
    have := hRep.1
    omega
  have hL : zLc G nx (zmt y).2.2.1 (zlc (zmt y).2.2.1 av) lsA := by
    refine ⟨?_, hl.1, hl.2.1, fun i v hi => ?_⟩
    · rw [zlc, List.length_append, List.length_map, List.length_replicate]
      omega
    · have hi' : av[i]? = some v := by
        by_cases hlt : i < av.length
        · rw [zlc, List.getElem?_append_left (by rw [List.length_map]; exact hlt), List.getElem?_map] at hi
          cases hq : av[i]? with
          | none => rw [hq] at hi; cases hi
          | some w => rw [hq] at hi; cases hi; rfl
        · rw [zlc, List.getElem?_append_right (by rw [List.length_map]; omega), List.getElem?_replicate] at hi
          split at hi <;> cases hi
      refine ⟨?_, hok v (List.mem_of_getElem? hi')⟩
      have := zargs_mem (G := G) av 0 i v hi'
      rw [Nat.zero_add] at this
      exact hl.2.2 _ this
  have hJ := h G nx p l e _ s m _ below meth c (MQ below (zPost G cpE nxE Q) (av.map (zval G)).toArray s (nxE - nx) (zsl nxE - zsl nx) (zA G)) hC (fun v σ1 pc1 ls1 hq hr => ?_)
  · have := hJ (Nat.le_refl _) hnx s.heap [] lsA hRep hL (fun v hv => (by cases hv)) va_S.rf
    rw [Nat.sub_self, Nat.sub_self] at this
    exact this
  · intro h0 hE H locs lsA1 hR hL1 hs hS
    have hlocks := B.notSynchronized
    match v, hr, hq, hs with
    | none, hr, hq, hs =>
      exact W.vret B.exec B.bytes (by rw [B.returns]; exact hr.2) (fun t ht hw => ⟨⟨none, σ1, rfl, hq, (fun q h => by cases h), by rw [ht]; exact hR⟩, hS.F ht⟩) hS.2.2 hr.1
    | some (.inl x), hr, hq, hs =>
      have hpost : ∀ t : State, t.heap = H → s.WarmedH t.vm → zPost G cpE nxE Q (av.map (zval G)).toArray s (.returned (some (.int x))) t := fun t ht hw => ⟨⟨some (.inl x), σ1, rfl, hq, (fun q h => by cases h; trivial), by rw [ht]; exact hR⟩, hS.F ht⟩
      rcases hr.2 with h1 | ⟨h1, h2⟩
      · exact W.iret B.exec B.bytes (by rw [B.returns]; exact h1) hpost hS.2.2 hr.1
      · exact W.zret B.exec B.bytes (by rw [B.returns]; exact h1) (by rcases h2 with h2 | h2 <;> (subst h2; rfl)) hpost hS.2.2 hr.1
    | some (.inr q), hr, hq, hs =>
      obtain ⟨nm, hn⟩ := hr.2
      exact W.aret (v := .ref (zrho G q.2.2)) B.exec B.bytes (by rw [B.returns]; exact hn) (Or.inl ⟨nm, rfl⟩) (Or.inr ⟨_, rfl⟩) (fun t ht hw => ⟨⟨some (.inr q), σ1, rfl, hq, (fun z h => by cases h; exact hs _ List.mem_cons_self), by rw [ht]; exact hR⟩, hS.F ht⟩) hS.2.2 hr.1
theorem zCl.use {d d1 nx nx1 y : Nat} {cp cp1 : Nat → Bool} {av : List zV} {σ : zS} {Q Q1 : zQ} (h : zCl d1 cp nx cp1 nx1 y av σ Q1) (hd : d1 ≤ d) (hq : ∀ v σ1, Q1 v σ1 → Q v σ1) : zCl d cp nx cp1 nx1 y av σ Q := by
  obtain ⟨d0, h1, h2, h3, h4⟩ := h
  refine ⟨d0, Nat.le_trans h1 hd, h2, h3, fun l G => ?_⟩
  intro p e ha hc hk s m args below hf happ hpre ht
  obtain ⟨n, o, q1, q2, q3, q4, L, q5, q6⟩ := h4 l G p e ha hc hk s m args below hf happ hpre ht
  obtain ⟨⟨v, σ1, r1, r2, r3, r4⟩, r5⟩ := q4
  exact ⟨n, o, q1, q2, q3, ⟨⟨v, σ1, r1, hq v σ1 r2, r3, r4⟩, r5⟩, L, q5, q6⟩
/-- the whole of a method, at once -/
theorem zmeth {d y nx nxE : Nat} {cp cpE : Nat → Bool} {av : List zV} {σ : zS} {Q : zQ} {cd : List (Nat × zIn)} (cs : List Nat) (n : Nat) (hy : y < 297) (hyo : (zmt y).1.cls = zown (zmo y)) (hcd : ∀ q ∈ cd, zick (zmt y).2.1 y q = true) (hnx : nx ≤ nxE) (hlen : av.length ≤ (zmt y).2.2.1) (h : zvc cd cs d y cpE nxE Q n cp nx 0 cd (zlc (zmt y).2.2.1 av) [] σ) : zCl d cp nx cpE nxE y av σ Q := zCl.of hy hnx hlen (zvc_sound hyo hcd n cp nx 0 cd _ [] σ (fun _ h => h) h)
