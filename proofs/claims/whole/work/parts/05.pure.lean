/-! THE PURE MACHINE: cells by number, ints and references apart; what a step of the code asks for (zst_..) -/
abbrev zV : Type := Int32 ⊕ (Nat × Nat × Nat)
abbrev zS : Type := (Nat → Nat → Int32) × (Nat → Nat → Nat)
abbrev zIn : Type := Nat × Nat × Int32 × Nat × Nat × Nat × List (Int32 × Nat)
abbrev zQ : Type := Option zV → zS → Prop
abbrev zF : Type := (Nat → Bool) → Nat → Nat → List (Nat × zIn) → List (Option zV) → List zV → zS → Prop
def zuI (σ : zS) (a k : Nat) (x : Int32) : zS := (fun q j => if q = a ∧ j = k then x else σ.1 q j, σ.2)
def zuR (σ : zS) (a k n : Nat) : zS := (σ.1, fun q j => if q = a ∧ j = k then n else σ.2 q j)
def zu0 (σ : zS) (a : Nat) : zS := (fun q j => if q = a then 0 else σ.1 q j, fun q j => if q = a then 0 else σ.2 q j)
def zcpy (σ : zS) (src dst sp dp n : Nat) : zS := (fun q j => if q = dst then va_cpy (σ.1 src) (σ.1 dst) sp dp n j else σ.1 q j, σ.2)
def zsl (n : Nat) : Nat := ((List.range n).map (fun a => (zlay a).2)).sum
def zall : Nat → Bool := fun _ => true
def zseek (cd : List (Nat × zIn)) (t : Nat) : List (Nat × zIn) := cd.dropWhile (fun q => !(Nat.beq q.1 t))
def znm (i : Nat) : String := match i with | 0 => "NOTHING" | 1 => "TRIED_WAYS" | _ => "TRIED_NUMBERS"
/-! the launch and where its cells lie -/
abbrev zG : Type := va_G × (Nat → ClassId) × Nat × (Nat → Nat) × (Nat → Nat) × (Nat → Nat → Int32)
def zrho (G : zG) (a : Nat) : Nat := if a < 1000000 then G.2.2.1 + a else G.2.2.2.1 (a - 1000000)
def zval (G : zG) (v : zV) : Value := match v with
  | .inl x => .int x
  | .inr q => .ref (zrho G q.2.2)
def zrf (G : zG) (n : Nat) : Option Nat := match n with
  | 0 => none
  | b + 1 => some (zrho G b)
def zfv (G : zG) (cp : Nat → Bool) (σ : zS) (a c k : Nat) : Value := match (zfk c k).1 with
  | 0 => .int (σ.1 a k)
  | 1 => bif cp a then .ref (zrho G (a + (zfk c k).2.2.2)) else va_rf (zrf G (σ.2 a k))
  | _ => va_rf (zrf G (σ.2 a k))
def zenc (G : zG) (cp : Nat → Bool) (σ : zS) (a : Nat) : va_E :=
  if (zlay a).1 < 10 then .inr ((zlay a).1, (List.range (zlay a).2).map (zfv G cp σ a (zlay a).1))
  else if (zlay a).1 < 23 then .inl (G.2.1 ((zlay a).1 - 20), (zlay a).2, .inl (σ.1 a))
  else .inl (G.2.1 ((zlay a).1 - 20), (zlay a).2, .inr (.inr (.inr (.inr (fun j => zrf G (σ.2 a j))))))
def zws (G : zG) (cp : Nat → Bool) (σ : zS) (nx : Nat) : va_W := (List.range nx).map (fun a => (G.2.2.1 + a, zenc G cp σ a))
def zA (G : zG) : Nat → Prop := fun q => G.2.2.1 ≤ q
def ztys (G : zG) : List (ClassId × FieldType) := [(G.2.1 0, .int), (G.2.1 1, .byte), (G.2.1 2, .boolean), (G.2.1 3, .object RX4), (G.2.1 4, .object RX5), (G.2.1 5, .object RX7)]
def zsiL : List Nat := [67, 73, 75, 77, 79, 81, 83, 85, 87, 89, 91, 93, 95, 106]
def ztxL : List String := ["windows", "handler", "slice", "price", "def", "task", "single", "fixed", "counter", "double", "if", "then", "else", ";=(),+-*/%<>"]
def zslenL : List Nat := [7, 7, 5, 5, 3, 4, 6, 5, 7, 6, 2, 4, 4, 12]
def zsbytL : List (List Int32) := [[119, 105, 110, 100, 111, 119, 115], [104, 97, 110, 100, 108, 101, 114], [115, 108, 105, 99, 101], [112, 114, 105, 99, 101], [100, 101, 102], [116, 97, 115, 107], [115, 105, 110, 103, 108, 101], [102, 105, 120, 101, 100], [99, 111, 117, 110, 116, 101, 114], [100, 111, 117, 98, 108, 101], [105, 102], [116, 104, 101, 110], [101, 108, 115, 101], [59, 61, 40, 41, 44, 43, 45, 42, 47, 37, 60, 62]]
def zKs (G : zG) (U : State) : Prop := (∀ i, i < 14 → vk_R RX6 (zsiL.getD i 0) (ztxL.getD i "") (G.2.2.2.1 (10 + i)) U) ∧ vk_S 14 zslenL zsbytL (fun i => G.2.2.2.1 (10 + i)) (fun i => G.2.2.2.1 (40 + i)) (zA G) U U.heap ∧ va_Z "java/lang/String" "COMPACT_STRINGS" "Z" (.int 1) (zA G) U U.heap ∧ va_Zq "jdk/internal/util/Preconditions" "SIOOBE_FORMATTER" "Ljava/util/function/BiFunction;" (zA G) U U.heap
def zK (G : zG) (U : State) : Prop := va_K G.1 zcl (ztys G) U ∧ (∀ q ∈ znlL, va_Nw (.methodLinkNest (zown q.1) q.2.1 (zmt q.2.2.1).1 "WindowRing") U) ∧ va_Nw (.fieldLinkNest RX0 9 "WindowRing" "NOTHING" "[I" "WindowRing") U ∧ (∀ i, i < 4 → va_T .int (G.2.2.2.1 i) (G.2.2.2.2.1 i) (fun j => .int (G.2.2.2.2.2 i j)) (zA G) U U.heap) ∧ (∀ i, i < 3 → va_Z "WindowRing" (znm i) "[I" (.ref (G.2.2.2.1 i)) (zA G) U U.heap) ∧ (∀ i, i < 3 → G.2.2.2.2.1 i = zstn i) ∧ (va_AO RX4 U ∧ va_AO RX5 U ∧ va_AO RX7 U) ∧ zKs G U
/-- a cell of that tag and length -/
def zat (G : zG) (nx a t n : Nat) : Prop := (a < nx ∧ zlay a = (t, n)) ∨ (∃ i, i < 4 ∧ a = 1000000 + i ∧ t = 26 ∧ n = G.2.2.2.2.1 i) ∨ (∃ i, i < 14 ∧ ((a = 1000010 + i ∧ t = 30 ∧ n = i) ∨ (a = 1000040 + i ∧ t = 27 ∧ n = zslenL.getD i 0)))
def zok (G : zG) (nx : Nat) (v : zV) : Prop := match v with
  | .inl _ => True
  | .inr q => zat G nx q.2.2 q.1 q.2.1
def zRep (G : zG) (cp : Nat → Bool) (nx : Nat) (σ : zS) (H : Heap) : Prop := H.size = G.2.2.1 + nx ∧ nx ≤ 501 ∧ va_P G.1 zcl (zws G cp σ nx) H ∧ (∀ a k b, a < nx → σ.2 a k = b + 1 → b < nx ∨ (1000000 ≤ b ∧ b < 1000003)) ∧ (∀ a k, a < nx → cp a = true → (zfk (zlay a).1 k).1 = 1 → a + (zfk (zlay a).1 k).2.2.2 < nx) ∧ (∀ i, i < 4 → ∀ j, j < G.2.2.2.2.1 i → σ.1 (1000000 + i) j = G.2.2.2.2.2 i j)
/-! contracts of methods, by their numbers -/
def zwd (y : Nat) : List Cond := .code (zmt y).1 (zmt y).2.1 (zmt y).2.2.1 (zmt y).2.2.2 :: ztb
def zPre (G : zG) (cp : Nat → Bool) (nx : Nat) (av : List zV) (σ : zS) : Array Value → State → Prop := fun v U => v = (av.map (zval G)).toArray ∧ zRep G cp nx σ U.heap ∧ zK G U ∧ ∀ q ∈ av, zok G nx q
def zPost (G : zG) (cp : Nat → Bool) (nx : Nat) (Q : zQ) : Array Value → State → Outcome → State → Prop := fun _ st o t => (∃ (v : Option zV) (σ : zS), o = .returned (v.map (zval G)) ∧ Q v σ ∧ (∀ q, v = some q → zok G nx q) ∧ zRep G cp nx σ t.heap) ∧ va_F (zA G) st t
def zrm (d nx nx1 : Nat) : Room := { frames := d, cells := nx1 - nx, slots := zsl nx1 - zsl nx, locals := 60 * d }
def zCl (d : Nat) (cp : Nat → Bool) (nx : Nat) (cp1 : Nat → Bool) (nx1 y : Nat) (av : List zV) (σ : zS) (Q : zQ) : Prop := ∃ d0, d0 ≤ d ∧ nx ≤ nx1 ∧ zsl nx ≤ zsl nx1 ∧ ∀ (l : Launch) (G : zG), Met l (zmt y).1 (zwd y) (zrm d0 nx nx1) (zPre G cp nx av σ) (zPost G cp1 nx1 Q) (nx1 - nx) (zsl nx1 - zsl nx) (zA G)
def zCx (G : zG) (d y nx0 nxE : Nat) (p : Program) (R : Room) (s : State) (m : MethodId) (args : Array Value) (meth : Method) (c : Code) : Prop := p.tables.exec = Jvm.exec ∧ c.code = (zmt y).2.1 ∧ c.maxLocals = (zmt y).2.2.1 ∧ s.vm.findClass (zmt y).1.cls = some m.cls ∧ (∀ w ∈ ztb, w.before args s = true) ∧ zK G s ∧ s.heap.size = G.2.2.1 + nx0 ∧ d ≤ R.frames ∧ 60 * d ≤ R.locals ∧ nxE - nx0 ≤ R.cells ∧ zsl nxE - zsl nx0 ≤ R.slots ∧ meth.name = (zmt y).1.name ∧ meth.sig.returnType = (zmt y).2.2.2
def zLc (G : zG) (nx nL : Nat) (ls : List (Option zV)) (lsA : Array Slot) : Prop := ls.length = nL ∧ lsA.size = nL ∧ lv_wf lsA ∧ ∀ (i : Nat) (v : zV), ls[i]? = some (some v) → lsA[i]? = some (.val (zval G v)) ∧ zok G nx v
/-- the machine, at that pure state -/
def zJ (G : zG) (nL nx0 nxE : Nat) (p : Program) (l : Launch) (e : Env) (R : Room) (s : State) (m : MethodId) (args : Array Value) (below : List Frame) (meth : Method) (c : Code) (Qm : State → Prop) (cp : Nat → Bool) (nx pc : Nat) (ls : List (Option zV)) (st : List zV) (σ : zS) : Prop :=
  nx0 ≤ nx → nx ≤ nxE → ∀ (H : Heap) (locs : List Loc) (lsA : Array Slot), zRep G cp nx σ H → zLc G nx nL ls lsA → (∀ v ∈ st, zok G nx v) → va_S (zA G) s.heap H locs → W p l e R s m args below meth c H locs (nx - nx0) (zsl nx - zsl nx0) Qm (F0 m pc lsA (st.map (zval G)))
/-- from that pure state the method y ends with Q -/
def zWp (d : Nat) (cpE : Nat → Bool) (nxE y : Nat) (Q : zQ) (cp : Nat → Bool) (nx pc : Nat) (ls : List (Option zV)) (st : List zV) (σ : zS) : Prop :=
  ∀ (G : zG) (nx0 : Nat) (p : Program) (l : Launch) (e : Env) (R : Room) (s : State) (m : MethodId) (args : Array Value) (below : List Frame) (meth : Method) (c : Code) (Qm : State → Prop), zCx G d y nx0 nxE p R s m args meth c →
    (∀ (v : Option zV) (σ1 : zS) (pc1 : Nat) (ls1 : List (Option zV)), Q v σ1 → (match v with | none => decode (zmt y).2.1 pc1 = .ok (.return_, 1) ∧ (zmt y).2.2.2 = none | some (.inl x) => decode (zmt y).2.1 pc1 = .ok (.ireturn, 1) ∧ ((zmt y).2.2.2 = some .int ∨ ((zmt y).2.2.2 = some .boolean ∧ (x = 0 ∨ x = 1)) ∨ ((zmt y).2.2.2 = some .char ∧ (x.toUInt32 % 65536).toInt32 = x) ∨ ((zmt y).2.2.2 = some .byte ∧ x.toInt8.toInt32 = x)) | some (.inr _) => decode (zmt y).2.1 pc1 = .ok (.areturn, 1) ∧ ∃ n, (zmt y).2.2.2 = some (.object n)) → zJ G (zmt y).2.2.1 nx0 nxE p l e R s m args below meth c Qm cpE nxE pc1 ls1 v.toList σ1) →
    zJ G (zmt y).2.2.1 nx0 nxE p l e R s m args below meth c Qm cp nx pc ls st σ
