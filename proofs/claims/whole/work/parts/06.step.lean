/-! one instruction: what it is in the code (zdec, zick), what it does (zstep); a run of them (zvc) -/
def zlo (tg : List (Int32 × Nat)) : Int := match tg with
  | [] => 0
  | q :: _ => q.1.toInt
def zaty (a : Nat) : ArrayType := match a with
  | 20 => .int
  | 21 => .byte
  | _ => .boolean
def zdec2 (op idx : Nat) : Instr := match op with
  | 76 => .ldc idx
  | 77 => .getfield idx
  | 78 => .getfield idx
  | 79 => .getstatic idx
  | 80 => .invokevirtual idx
  | _ => .ireturn
def zdec (pc op : Nat) (imm : Int32) (a b idx : Nat) (tg : List (Int32 × Nat)) : Instr := match op with
  | 0 => .iconst imm.toInt
  | 1 => .bipush imm.toInt
  | 2 => .sipush imm.toInt
  | 3 => .ldc idx
  | 4 => .ldc_w idx
  | 5 => .iload_n (Fin.ofNat 4 a)
  | 6 => .iload a
  | 7 => .aload_n (Fin.ofNat 4 a)
  | 8 => .aload a
  | 9 => .istore_n (Fin.ofNat 4 a)
  | 10 => .istore a
  | 11 => .astore_n (Fin.ofNat 4 a)
  | 12 => .astore a
  | 13 => .iinc a imm.toInt
  | 14 => .iadd
  | 15 => .isub
  | 16 => .imul
  | 17 => .iand
  | 18 => .ior
  | 19 => .ishl
  | 20 => .ishr
  | 21 => .iushr
  | 22 => .idiv
  | 23 => .irem
  | 24 => .ineg
  | 25 => .i2b
  | 26 => .i2c
  | 27 => .dup
  | 28 => .dup2
  | 29 => .pop
  | 30 => .ifCond .eq ((b : Int) - (pc : Int))
  | 31 => .ifCond .ne ((b : Int) - (pc : Int))
  | 32 => .ifCond .lt ((b : Int) - (pc : Int))
  | 33 => .ifCond .ge ((b : Int) - (pc : Int))
  | 34 => .ifCond .gt ((b : Int) - (pc : Int))
  | 35 => .ifCond .le ((b : Int) - (pc : Int))
  | 36 => .if_icmp .eq ((b : Int) - (pc : Int))
  | 37 => .if_icmp .ne ((b : Int) - (pc : Int))
  | 38 => .if_icmp .lt ((b : Int) - (pc : Int))
  | 39 => .if_icmp .ge ((b : Int) - (pc : Int))
  | 40 => .if_icmp .gt ((b : Int) - (pc : Int))
  | 41 => .if_icmp .le ((b : Int) - (pc : Int))
  | 42 => .goto ((b : Int) - (pc : Int))
  | 43 => .tableswitch ((b : Int) - (pc : Int)) (zlo tg) (zlo tg + tg.length - 1) (tg.map (fun q => ((q.2 : Int) - (pc : Int)))).toArray
  | 44 => .lookupswitch ((b : Int) - (pc : Int)) (tg.map (fun q => (q.1.toInt, (q.2 : Int) - (pc : Int)))).toArray
  | 45 => .getfield idx
  | 46 => .getfield idx
  | 47 => .getfield idx
  | 48 => .putfield idx
  | 49 => .putfield idx
  | 50 => .putfield idx
  | 51 => .iaload
  | 52 => .baload
  | 53 => .iastore
  | 54 => .bastore
  | 55 => .aaload
  | 56 => .aastore
  | 57 => .arraylength
  | 58 => .newarray (zaty a)
  | 59 => .anewarray idx
  | 60 => .new idx
  | 61 => .invokevirtual idx
  | 62 => .invokestatic idx
  | 63 => .invokespecial idx
  | 64 => .invokespecial idx
  | 65 => .invokestatic idx
  | 66 => .invokespecial idx
  | 67 => .invokestatic idx
  | 68 => .invokestatic idx
  | 69 => .invokestatic idx
  | 70 => .ireturn
  | 71 => .ireturn
  | 72 => .areturn
  | 73 => .return_
  | 74 => .getstatic idx
  | 75 => .getstatic idx
  | n => zdec2 n idx
def zlk2 (y op a b idx : Nat) : Bool := match op with
  | 76 => Nat.beq (zmo y) 6 && Nat.blt a 14 && Nat.beq idx (zsiL.getD a 0)
  | 77 => decide (lw_tbl[b]? = some (.fieldLink (zown (zmo y)) idx "java/lang/String" "value" "[B"))
  | 78 => decide (lw_tbl[b]? = some (.fieldLink (zown (zmo y)) idx "java/lang/String" "coder" "B"))
  | 79 => decide (lw_tbl[b]? = some (.fieldLink (zown (zmo y)) idx "java/lang/String" "COMPACT_STRINGS" "Z"))
  | 80 => zmlL.any (fun q => Nat.beq q.1 (zmo y) && Nat.beq q.2.1 idx && Nat.beq q.2.2.1 a) && !(zms a) && decide ((zmt a).1.name ≠ "<init>") && Nat.beq ((zmp a).2.2.2.2 + 1) b && Nat.beq (zmo a) 12
  | 81 => decide ((zmt y).2.2.2 = some .char)
  | 82 => decide ((zmt y).2.2.2 = some .byte)
  | n => Nat.blt n 75
/-- the words that the instruction links -/
def zlk (y op : Nat) (imm : Int32) (a b idx : Nat) (tg : List (Int32 × Nat)) : Bool := match op with
  | 0 => true
  | 1 => decide ((Int8.ofInt imm.toInt).toInt32 = imm)
  | 2 => decide ((Int16.ofInt imm.toInt).toInt32 = imm)
  | 3 => zcnL.any (fun q => Nat.beq q.1 (zmo y) && Nat.beq q.2.1 idx && decide (q.2.2.1 = imm))
  | 4 => zcnL.any (fun q => Nat.beq q.1 (zmo y) && Nat.beq q.2.1 idx && decide (q.2.2.1 = imm))
  | 5 => Nat.blt a 4
  | 7 => Nat.blt a 4
  | 9 => Nat.blt a 4
  | 11 => Nat.blt a 4
  | 43 => !tg.isEmpty && (List.range tg.length).all (fun i => match tg[i]? with | some q => decide (q.1.toInt = zlo tg + i) | none => false)
  | 44 => ((tg.map (fun q => q.1.toInt)).zip ((tg.map (fun q => q.1.toInt)).drop 1)).all (fun q => decide (q.1 < q.2))
  | 45 => zflL.any (fun q => Nat.beq q.1 (zmo y) && Nat.beq q.2.1 idx && Nat.beq q.2.2.1 a && Nat.beq q.2.2.2.1 b) && Nat.beq (zfk a b).1 0
  | 46 => zflL.any (fun q => Nat.beq q.1 (zmo y) && Nat.beq q.2.1 idx && Nat.beq q.2.2.1 a && Nat.beq q.2.2.2.1 b) && Nat.beq (zfk a b).1 1
  | 47 => zflL.any (fun q => Nat.beq q.1 (zmo y) && Nat.beq q.2.1 idx && Nat.beq q.2.2.1 a && Nat.beq q.2.2.2.1 b) && Nat.beq (zfk a b).1 2
  | 48 => zflL.any (fun q => Nat.beq q.1 (zmo y) && Nat.beq q.2.1 idx && Nat.beq q.2.2.1 a && Nat.beq q.2.2.2.1 b) && Nat.beq (zfk a b).1 0
  | 49 => zflL.any (fun q => Nat.beq q.1 (zmo y) && Nat.beq q.2.1 idx && Nat.beq q.2.2.1 a && Nat.beq q.2.2.2.1 b) && Nat.beq (zfk a b).1 2
  | 50 => zflL.any (fun q => Nat.beq q.1 (zmo y) && Nat.beq q.2.1 idx && Nat.beq q.2.2.1 a && Nat.beq q.2.2.2.1 b) && Nat.beq (zfk a b).1 1 && Nat.beq (zmo y) a && decide ((zmt y).1.name = "<init>")
  | 58 => Nat.beq a 20 || Nat.beq a 21 || Nat.beq a 22
  | 59 => zclL.any (fun q => Nat.beq q.1 (zmo y) && Nat.beq q.2.1 idx && Nat.beq q.2.2.1 b) && ((Nat.beq a 23 && Nat.beq b 4) || (Nat.beq a 24 && Nat.beq b 5) || (Nat.beq a 25 && Nat.beq b 7))
  | 60 => zclL.any (fun q => Nat.beq q.1 (zmo y) && Nat.beq q.2.1 idx && Nat.beq q.2.2.1 a) && Nat.blt a 10
  | 61 => zmlL.any (fun q => Nat.beq q.1 (zmo y) && Nat.beq q.2.1 idx && Nat.beq q.2.2.1 a) && !(zms a) && decide ((zmt a).1.name ≠ "<init>") && Nat.beq ((zmp a).2.2.2.2 + 1) b && Nat.blt (zmo a) 10
  | 62 => zmlL.any (fun q => Nat.beq q.1 (zmo y) && Nat.beq q.2.1 idx && Nat.beq q.2.2.1 a) && zms a && Nat.beq (zmp a).2.2.2.2 b
  | 63 => zmlL.any (fun q => Nat.beq q.1 (zmo y) && Nat.beq q.2.1 idx && Nat.beq q.2.2.1 a) && !(zms a) && decide ((zmt a).1.name = "<init>") && Nat.beq ((zmp a).2.2.2.2 + 1) b
  | 64 => decide (lw_tbl[b]? = some (.methodLink (zown (zmo y)) idx objectInit))
  | 65 => znlL.any (fun q => Nat.beq q.1 (zmo y) && Nat.beq q.2.1 idx && Nat.beq q.2.2.1 a) && zms a && Nat.beq (zmp a).2.2.2.2 b
  | 66 => znlL.any (fun q => Nat.beq q.1 (zmo y) && Nat.beq q.2.1 idx && Nat.beq q.2.2.1 a) && !(zms a) && decide ((zmt a).1.name = "<init>") && Nat.beq ((zmp a).2.2.2.2 + 1) b
  | 67 => decide (lw_tbl[b]? = some (.methodLink (zown (zmo y)) idx Lib.Math.min.name))
  | 68 => decide (lw_tbl[b]? = some (.methodLink (zown (zmo y)) idx Lib.Math.max.name))
  | 69 => decide (lw_tbl[b]? = some (.methodLink (zown (zmo y)) idx arraycopyName))
  | 70 => decide ((zmt y).2.2.2 = some .int)
  | 71 => decide ((zmt y).2.2.2 = some .boolean)
  | 72 => match (zmt y).2.2.2 with | some (.object _) => true | _ => false
  | 73 => decide ((zmt y).2.2.2 = none)
  | 74 => decide (lw_tbl[b]? = some (.fieldLink (zown (zmo y)) idx "WindowRing" (znm a) "[I")) && Nat.blt a 3
  | 75 => Nat.beq (zmo y) 0 && Nat.beq idx 9 && Nat.beq a 0
  | n => zlk2 y n a b idx
def zlenL : List Nat := [1, 2, 3, 2, 3, 1, 2, 1, 2, 1, 2, 1, 2, 3, 1, 1, 1, 1, 1, 1, 1, 1, 1, 1, 1, 1, 1, 1, 1, 1, 3, 3, 3, 3, 3, 3, 3, 3, 3, 3, 3, 3, 3, 3, 3, 3, 3, 3, 3, 3, 3, 1, 1, 1, 1, 1, 1, 1, 2, 3, 3, 3, 3, 3, 3, 3, 3, 3, 3, 3, 1, 1, 1, 1, 3, 3, 2, 3, 3, 3, 3, 1, 1]
def zick (cc : ByteArray) (y : Nat) (q : Nat × zIn) : Bool := match q with
  | (pc, op, len, imm, a, b, idx, tg) => decide (decode cc pc = .ok (zdec pc op imm a b idx tg, len)) && (zlk y op imm a b idx tg && (Nat.beq op 43 || Nat.beq op 44 || Nat.beq len (zlenL.getD op 3)))
def zsw (x : Int32) (K : Nat → Prop) (b : Nat) : List (Int32 × Nat) → Prop
  | [] => K b
  | (v, t) :: r => (x = v → K t) ∧ (¬ x = v → zsw x K b r)
def zpop (b : Nat) (st : List zV) (K : List zV → List zV → Prop) : Prop := match b, st with
  | 0, st => K [] st
  | 1, v1 :: st => K [v1] st
  | 2, v2 :: v1 :: st => K [v1, v2] st
  | 3, v3 :: v2 :: v1 :: st => K [v1, v2, v3] st
  | 4, v4 :: v3 :: v2 :: v1 :: st => K [v1, v2, v3, v4] st
  | 5, v5 :: v4 :: v3 :: v2 :: v1 :: st => K [v1, v2, v3, v4, v5] st
  | 6, v6 :: v5 :: v4 :: v3 :: v2 :: v1 :: st => K [v1, v2, v3, v4, v5, v6] st
  | 7, v7 :: v6 :: v5 :: v4 :: v3 :: v2 :: v1 :: st => K [v1, v2, v3, v4, v5, v6, v7] st
  | _, _ => False
def zhd (av : List zV) (t : Nat) : Bool := match av with
  | .inr (u, _, _) :: _ => Nat.beq u t
  | _ => false
/-- a call that makes nothing -/
def zst_c (F : zF) (d : Nat) (cp : Nat → Bool) (nx pc : Nat) (r : List (Nat × zIn)) (ls : List (Option zV)) (st : List zV) (σ : zS) (len a b : Nat) (rcv : Bool) : Prop :=
  zpop b st (fun av rest => bif Nat.ble rest.length 8 && (!rcv || zhd av (zmo a)) then (match d with
    | 0 => False
    | d + 1 => zCl d cp nx cp nx a av σ (fun v σ1 => F cp nx (pc + len) r ls (v.toList ++ rest) σ1)) else False)
/-- a call of a method of a String constant -/
def zst_s (F : zF) (d : Nat) (cp : Nat → Bool) (nx pc : Nat) (r : List (Nat × zIn)) (ls : List (Option zV)) (st : List zV) (σ : zS) (len a b : Nat) : Prop :=
  zpop b st (fun av rest => bif Nat.ble rest.length 8 && zhd av 30 then (match d with
    | 0 => False
    | d + 1 => zCl d cp nx cp nx a av σ (fun v σ1 => F cp nx (pc + len) r ls (v.toList ++ rest) σ1)) else False)
/-- a call of a constructor -/
def zst_i (F : zF) (d nxE : Nat) (cp : Nat → Bool) (nx pc : Nat) (r : List (Nat × zIn)) (ls : List (Option zV)) (st : List zV) (σ : zS) (len a b : Nat) : Prop :=
  zpop b st (fun av rest => bif Nat.ble rest.length 8 && (match av with | .inr _ :: _ => true | _ => false) then (match d with
    | 0 => False
    | d + 1 => ∃ (cp1 : Nat → Bool) (nx1 : Nat), nx1 ≤ nxE ∧ zsl nx1 ≤ zsl nxE ∧ zCl d cp nx cp1 nx1 a av σ (fun v σ1 => F cp1 nx1 (pc + len) r ls (v.toList ++ rest) σ1)) else False)
def zstep2 (F : zF) (d : Nat) (cpE : Nat → Bool) (nxE : Nat) (Q : zQ) (cp : Nat → Bool) (nx pc : Nat) (r : List (Nat × zIn)) (ls : List (Option zV)) (st : List zV) (σ : zS) (op len a b : Nat) : Prop := match op with
  | 76 => F cp nx (pc + len) r ls (.inr (30, a, 1000010 + a) :: st) σ
  | 77 => match st with | .inr (t, n, _) :: st => (bif Nat.beq t 30 then F cp nx (pc + len) r ls (.inr (27, zslenL.getD n 0, 1000040 + n) :: st) σ else False) | _ => False
  | 78 => match st with | .inr (t, _, _) :: st => (bif Nat.beq t 30 then F cp nx (pc + len) r ls (.inl 0 :: st) σ else False) | _ => False
  | 79 => F cp nx (pc + len) r ls (.inl 1 :: st) σ
  | 80 => zst_s F d cp nx pc r ls st σ len a b
  | 81 => match st with | [.inl x] => cp = cpE ∧ nx = nxE ∧ (x.toUInt32 % 65536).toInt32 = x ∧ Q (some (.inl x)) σ | _ => False
  | 82 => match st with | [.inl x] => cp = cpE ∧ nx = nxE ∧ x.toInt8.toInt32 = x ∧ Q (some (.inl x)) σ | _ => False
  | _ => False
def zstep (F : zF) (cd : List (Nat × zIn)) (d : Nat) (cpE : Nat → Bool) (nxE : Nat) (Q : zQ) (cp : Nat → Bool) (nx pc : Nat) (r : List (Nat × zIn)) (ls : List (Option zV)) (st : List zV) (σ : zS) (op len : Nat) (imm : Int32) (a b : Nat) (tg : List (Int32 × Nat)) : Prop := match op with
  | 0 => F cp nx (pc + len) r ls (.inl imm :: st) σ
  | 1 => F cp nx (pc + len) r ls (.inl imm :: st) σ
  | 2 => F cp nx (pc + len) r ls (.inl imm :: st) σ
  | 3 => F cp nx (pc + len) r ls (.inl imm :: st) σ
  | 4 => F cp nx (pc + len) r ls (.inl imm :: st) σ
  | 5 => match ls[a]? with | some (some (.inl x)) => F cp nx (pc + len) r ls (.inl x :: st) σ | _ => False
  | 6 => match ls[a]? with | some (some (.inl x)) => F cp nx (pc + len) r ls (.inl x :: st) σ | _ => False
  | 7 => match ls[a]? with | some (some (.inr q)) => F cp nx (pc + len) r ls (.inr q :: st) σ | _ => False
  | 8 => match ls[a]? with | some (some (.inr q)) => F cp nx (pc + len) r ls (.inr q :: st) σ | _ => False
  | 9 => match st with | .inl x :: st => (match ls[a]? with | some _ => F cp nx (pc + len) r (ls.set a (some (.inl x))) st σ | none => False) | _ => False
  | 10 => match st with | .inl x :: st => (match ls[a]? with | some _ => F cp nx (pc + len) r (ls.set a (some (.inl x))) st σ | none => False) | _ => False
  | 11 => match st with | .inr q :: st => (match ls[a]? with | some _ => F cp nx (pc + len) r (ls.set a (some (.inr q))) st σ | none => False) | _ => False
  | 12 => match st with | .inr q :: st => (match ls[a]? with | some _ => F cp nx (pc + len) r (ls.set a (some (.inr q))) st σ | none => False) | _ => False
  | 13 => match ls[a]? with | some (some (.inl x)) => F cp nx (pc + len) r (ls.set a (some (.inl (x + imm)))) st σ | _ => False
  | 14 => match st with | .inl y :: .inl x :: st => F cp nx (pc + len) r ls (.inl (x + y) :: st) σ | _ => False
  | 15 => match st with | .inl y :: .inl x :: st => F cp nx (pc + len) r ls (.inl (x - y) :: st) σ | _ => False
  | 16 => match st with | .inl y :: .inl x :: st => F cp nx (pc + len) r ls (.inl (x * y) :: st) σ | _ => False
  | 17 => match st with | .inl y :: .inl x :: st => F cp nx (pc + len) r ls (.inl (x &&& y) :: st) σ | _ => False
  | 18 => match st with | .inl y :: .inl x :: st => F cp nx (pc + len) r ls (.inl (x ||| y) :: st) σ | _ => False
  | 19 => match st with | .inl y :: .inl x :: st => F cp nx (pc + len) r ls (.inl (x <<< (y &&& 31)) :: st) σ | _ => False
  | 20 => match st with | .inl y :: .inl x :: st => F cp nx (pc + len) r ls (.inl (x >>> (y &&& 31)) :: st) σ | _ => False
  | 21 => match st with | .inl y :: .inl x :: st => F cp nx (pc + len) r ls (.inl ((x.toUInt32 >>> (y.toUInt32 &&& Int32.toUInt32 31)).toInt32) :: st) σ | _ => False
  | 22 => match st with | .inl y :: .inl x :: st => ¬ y = 0 ∧ F cp nx (pc + len) r ls (.inl (x / y) :: st) σ | _ => False
  | 23 => match st with | .inl y :: .inl x :: st => ¬ y = 0 ∧ F cp nx (pc + len) r ls (.inl (x - x / y * y) :: st) σ | _ => False
  | 24 => match st with | .inl x :: st => F cp nx (pc + len) r ls (.inl (-x) :: st) σ | _ => False
  | 25 => match st with | .inl x :: st => F cp nx (pc + len) r ls (.inl x.toInt8.toInt32 :: st) σ | _ => False
  | 26 => match st with | .inl x :: st => F cp nx (pc + len) r ls (.inl (x.toUInt32 % 65536).toInt32 :: st) σ | _ => False
  | 27 => match st with | v :: st => F cp nx (pc + len) r ls (v :: v :: st) σ | _ => False
  | 28 => match st with | v :: w :: st => F cp nx (pc + len) r ls (v :: w :: v :: w :: st) σ | _ => False
  | 29 => match st with | _ :: st => F cp nx (pc + len) r ls st σ | _ => False
  | 30 => match st with | .inl x :: st => (x = 0 → F cp nx b (zseek cd b) ls st σ) ∧ (¬ x = 0 → F cp nx (pc + len) r ls st σ) | _ => False
  | 31 => match st with | .inl x :: st => (¬ x = 0 → F cp nx b (zseek cd b) ls st σ) ∧ (x = 0 → F cp nx (pc + len) r ls st σ) | _ => False
  | 32 => match st with | .inl x :: st => (x < 0 → F cp nx b (zseek cd b) ls st σ) ∧ (¬ x < 0 → F cp nx (pc + len) r ls st σ) | _ => False
  | 33 => match st with | .inl x :: st => (0 ≤ x → F cp nx b (zseek cd b) ls st σ) ∧ (¬ 0 ≤ x → F cp nx (pc + len) r ls st σ) | _ => False
  | 34 => match st with | .inl x :: st => (0 < x → F cp nx b (zseek cd b) ls st σ) ∧ (¬ 0 < x → F cp nx (pc + len) r ls st σ) | _ => False
  | 35 => match st with | .inl x :: st => (x ≤ 0 → F cp nx b (zseek cd b) ls st σ) ∧ (¬ x ≤ 0 → F cp nx (pc + len) r ls st σ) | _ => False
  | 36 => match st with | .inl y :: .inl x :: st => (x = y → F cp nx b (zseek cd b) ls st σ) ∧ (¬ x = y → F cp nx (pc + len) r ls st σ) | _ => False
  | 37 => match st with | .inl y :: .inl x :: st => (¬ x = y → F cp nx b (zseek cd b) ls st σ) ∧ (x = y → F cp nx (pc + len) r ls st σ) | _ => False
  | 38 => match st with | .inl y :: .inl x :: st => (x < y → F cp nx b (zseek cd b) ls st σ) ∧ (¬ x < y → F cp nx (pc + len) r ls st σ) | _ => False
  | 39 => match st with | .inl y :: .inl x :: st => (y ≤ x → F cp nx b (zseek cd b) ls st σ) ∧ (¬ y ≤ x → F cp nx (pc + len) r ls st σ) | _ => False
  | 40 => match st with | .inl y :: .inl x :: st => (y < x → F cp nx b (zseek cd b) ls st σ) ∧ (¬ y < x → F cp nx (pc + len) r ls st σ) | _ => False
  | 41 => match st with | .inl y :: .inl x :: st => (x ≤ y → F cp nx b (zseek cd b) ls st σ) ∧ (¬ x ≤ y → F cp nx (pc + len) r ls st σ) | _ => False
  | 42 => F cp nx b (zseek cd b) ls st σ
  | 43 => match st with | .inl x :: st => zsw x (fun t => F cp nx t (zseek cd t) ls st σ) b tg | _ => False
  | 44 => match st with | .inl x :: st => zsw x (fun t => F cp nx t (zseek cd t) ls st σ) b tg | _ => False
  | 45 => match st with | .inr (t, _, o) :: st => (bif Nat.beq t a then F cp nx (pc + len) r ls (.inl (σ.1 o b) :: st) σ else False) | _ => False
  | 46 => match st with | .inr (t, _, o) :: st => (bif Nat.beq t a then (match cp o with
      | true => (match zfk a b with | (_, ft, fl, off) => F cp nx (pc + len) r ls (.inr (ft, fl, o + off) :: st) σ)
      | false => σ.2 o b ≠ 0 ∧ ∀ q, σ.2 o b = q + 1 → F cp nx (pc + len) r ls (.inr ((zlay q).1, (zlay q).2, q) :: st) σ) else False) | _ => False
  | 47 => match st with | .inr (t, _, o) :: st => (bif Nat.beq t a then σ.2 o b ≠ 0 ∧ ∀ q, σ.2 o b = q + 1 → F cp nx (pc + len) r ls (.inr ((zlay q).1, (zlay q).2, q) :: st) σ else False) | _ => False
  | 48 => match st with | .inl x :: .inr (t, _, o) :: st => (bif Nat.beq t a then F cp nx (pc + len) r ls st (zuI σ o b x) else False) | _ => False
  | 49 => match st with | .inr (_, _, q) :: .inr (t, _, o) :: st => (bif Nat.beq t a then q < 1000003 ∧ F cp nx (pc + len) r ls st (zuR σ o b (q + 1)) else False) | _ => False
  | 50 => match st with | .inr (_, _, q) :: .inr (t, _, o) :: st => (bif Nat.beq t a then q < 1000003 ∧ cp o = false ∧ F cp nx (pc + len) r ls st (zuR σ o b (q + 1)) else False) | _ => False
  | 51 => match st with | .inl i :: .inr (t, n, o) :: st => (bif Nat.beq t 20 || Nat.beq t 26 then vp_in i n ∧ F cp nx (pc + len) r ls (.inl (σ.1 o i.toNatClampNeg) :: st) σ else False) | _ => False
  | 52 => match st with | .inl i :: .inr (t, n, o) :: st => (bif Nat.beq t 21 || Nat.beq t 22 then vp_in i n ∧ F cp nx (pc + len) r ls (.inl (σ.1 o i.toNatClampNeg) :: st) σ else bif Nat.beq t 27 then vp_in i n ∧ F cp nx (pc + len) r ls (.inl ((zsbytL.getD (o - 1000040) []).getD i.toNatClampNeg 0) :: st) σ else False) | _ => False
  | 53 => match st with | .inl x :: .inl i :: .inr (t, n, o) :: st => (bif Nat.beq t 20 then vp_in i n ∧ F cp nx (pc + len) r ls st (zuI σ o i.toNatClampNeg x) else False) | _ => False
  | 54 => match st with | .inl x :: .inl i :: .inr (t, n, o) :: st => (bif Nat.beq t 21 then vp_in i n ∧ F cp nx (pc + len) r ls st (zuI σ o i.toNatClampNeg (vp_nar .byte x)) else bif Nat.beq t 22 then vp_in i n ∧ F cp nx (pc + len) r ls st (zuI σ o i.toNatClampNeg (vp_nar .boolean x)) else False) | _ => False
  | 55 => match st with | .inl i :: .inr (t, n, o) :: st => (bif Nat.beq t 23 || Nat.beq t 24 || Nat.beq t 25 then vp_in i n ∧ σ.2 o i.toNatClampNeg ≠ 0 ∧ ∀ q, σ.2 o i.toNatClampNeg = q + 1 → F cp nx (pc + len) r ls (.inr ((zlay q).1, (zlay q).2, q) :: st) σ else False) | _ => False
  | 56 => match st with | .inr (ft, _, q) :: .inl i :: .inr (t, n, o) :: st => (bif (Nat.beq t 23 && Nat.beq ft 4) || (Nat.beq t 24 && Nat.beq ft 5) || (Nat.beq t 25 && Nat.beq ft 7) then vp_in i n ∧ F cp nx (pc + len) r ls st (zuR σ o i.toNatClampNeg (q + 1)) else False) | _ => False
  | 57 => match st with | .inr (t, n, _) :: st => (bif Nat.ble 20 t && Nat.ble t 27 then F cp nx (pc + len) r ls (.inl (Int32.ofNat n) :: st) σ else False) | _ => False
  | 58 => match st with | .inl x :: st => zlay nx = (a, x.toNatClampNeg) ∧ ¬ x < 0 ∧ nx < nxE ∧ F cp (nx + 1) (pc + len) r ls (.inr (a, x.toNatClampNeg, nx) :: st) (zu0 σ nx) | _ => False
  | 59 => match st with | .inl x :: st => zlay nx = (a, x.toNatClampNeg) ∧ ¬ x < 0 ∧ nx < nxE ∧ F cp (nx + 1) (pc + len) r ls (.inr (a, x.toNatClampNeg, nx) :: st) (zu0 σ nx) | _ => False
  | 60 => match zcl[a]? with | some q => zlay nx = (a, q.2.2) ∧ cp nx = false ∧ nx < nxE ∧ F cp (nx + 1) (pc + len) r ls (.inr (a, q.2.2, nx) :: st) (zu0 σ nx) | none => False
  | 61 => zst_c F d cp nx pc r ls st σ len a b true
  | 62 => zst_c F d cp nx pc r ls st σ len a b false
  | 63 => zst_i F d nxE cp nx pc r ls st σ len a b
  | 64 => match st with | .inr _ :: st => (match d with | 0 => False | _ + 1 => (bif Nat.ble st.length 8 then F cp nx (pc + len) r ls st σ else False)) | _ => False
  | 65 => zst_c F d cp nx pc r ls st σ len a b false
  | 66 => zst_i F d nxE cp nx pc r ls st σ len a b
  | 67 => match st with | .inl y :: .inl x :: st => (match d with | 0 => False | _ + 1 => (bif Nat.ble st.length 8 then F cp nx (pc + len) r ls (.inl (if y < x then y else x) :: st) σ else False)) | _ => False
  | 68 => match st with | .inl y :: .inl x :: st => (match d with | 0 => False | _ + 1 => (bif Nat.ble st.length 8 then F cp nx (pc + len) r ls (.inl (if x < y then y else x) :: st) σ else False)) | _ => False
  | 69 => match st with | .inl n :: .inl dp :: .inr (t1, n1, o1) :: .inl sp :: .inr (t0, n0, o0) :: st => (match d with | 0 => False | _ + 1 => (bif Nat.beq t0 20 && Nat.beq t1 20 && Nat.ble st.length 8 then ¬ sp < 0 ∧ ¬ dp < 0 ∧ ¬ n < 0 ∧ sp.toNatClampNeg + n.toNatClampNeg ≤ n0 ∧ dp.toNatClampNeg + n.toNatClampNeg ≤ n1 ∧ F cp nx (pc + len) r ls st (zcpy σ o0 o1 sp.toNatClampNeg dp.toNatClampNeg n.toNatClampNeg) else False)) | _ => False
  | 70 => match st with | [.inl x] => cp = cpE ∧ nx = nxE ∧ Q (some (.inl x)) σ | _ => False
  | 71 => match st with | [.inl x] => cp = cpE ∧ nx = nxE ∧ (x = 0 ∨ x = 1) ∧ Q (some (.inl x)) σ | _ => False
  | 72 => match st with | [.inr q] => cp = cpE ∧ nx = nxE ∧ Q (some (.inr q)) σ | _ => False
  | 73 => match st with | [] => cp = cpE ∧ nx = nxE ∧ Q none σ | _ => False
  | 74 => F cp nx (pc + len) r ls (.inr (26, zstn a, 1000000 + a) :: st) σ
  | 75 => F cp nx (pc + len) r ls (.inr (26, zstn a, 1000000 + a) :: st) σ
  | n => zstep2 F d cpE nxE Q cp nx pc r ls st σ n len a b
def zvc (cd : List (Nat × zIn)) (cs : List Nat) (d y : Nat) (cpE : Nat → Bool) (nxE : Nat) (Q : zQ) : Nat → zF
  | 0 => fun _ _ _ _ _ _ _ => False
  | n + 1 => fun cp nx pc pos ls st σ => match pos with
    | [] => False
    | (pc0, op, len, imm, a, b, _, tg) :: r => bif Nat.beq pc0 pc then zstep (fun cp nx pc pos ls st σ => bif cs.contains pc then zWp d cpE nxE y Q cp nx pc ls st σ else zvc cd cs d y cpE nxE Q n cp nx pc pos ls st σ) cd d cpE nxE Q cp nx pc0 r ls st σ op len imm a b tg else False
