/-! the statement's words that the start needs -/
abbrev nwC : Cond := Jvm.Cond.and given_1 narrow_1
set_option maxRecDepth 100000 in
theorem nw_way : ∀ j, j < 5 → Cond.eq (.elem (.static "WindowRing" "TRIED_WAYS" "[I") (.int (Int32.ofNat j))) (.int (f_X9_triedWay (nI j))) ∈ flatC nwC := by decide +kernel
set_option maxRecDepth 100000 in
theorem nw_num : ∀ j, j < 5 → Cond.eq (.elem (.static "WindowRing" "TRIED_NUMBERS" "[I") (.int (Int32.ofNat j))) (.int (f_X9_triedN (nI j))) ∈ flatC nwC := by decide +kernel
set_option maxRecDepth 100000 in
theorem nw_arr : ∀ i, i < 3 → Cond.arrayOf (.static "WindowRing" (znm i) "[I") .int ∈ flatC nwC ∧ Cond.eq (.length (.static "WindowRing" (znm i) "[I")) (.int (Int32.ofNat (zstn i))) ∈ flatC nwC := by decide +kernel
set_option maxRecDepth 100000 in
theorem nw_two : Cond.eq (.static "java/lang/String" "COMPACT_STRINGS" "Z") (.int 1) ∈ flatC nwC ∧ Cond.isRef (.static "jdk/internal/util/Preconditions" "SIOOBE_FORMATTER" "Ljava/util/function/BiFunction;") ∈ flatC nwC := by decide +kernel
def zst (i : Nat) : Term := .string "WindowRing$Tokens" (zsiL.getD i 0)
set_option maxRecDepth 100000 in
theorem nw_str : ∀ i, i < 14 → Cond.exactly (zst i) "java/lang/String" ∈ flatC nwC ∧ Cond.eq (.field (zst i) "java/lang/String" "coder" "B") (.int 0) ∈ flatC nwC ∧ Cond.arrayOf (.field (zst i) "java/lang/String" "value" "[B") .byte ∈ flatC nwC ∧ Cond.eq (.length (.field (zst i) "java/lang/String" "value" "[B")) (.int (Int32.ofNat (zslenL.getD i 0))) ∈ flatC nwC := by decide +kernel
set_option maxRecDepth 100000 in
theorem nw_byt : ∀ i, i < 14 → ∀ j, j < zslenL.getD i 0 → Cond.eq (.elem (.field (zst i) "java/lang/String" "value" "[B") (.int (Int32.ofNat j))) (.int ((zsbytL.getD i []).getD j 0)) ∈ flatC nwC := by decide +kernel
set_option maxRecDepth 100000 in
theorem nw_ne : ∀ i, i < 14 → ∀ j, j < i → Cond.not (Cond.eq (zst j) (zst i)) ∈ flatC nwC := by decide +kernel
set_option maxRecDepth 100000 in
theorem tb_str : ∀ i, i < 14 → Cond.stringRef RX6 (zsiL.getD i 0) (ztxL.getD i "") ∈ lw_tbl := by decide +kernel
set_option maxRecDepth 100000 in
theorem tb_sta : (∀ i, i < 3 → Cond.laysStatic "WindowRing" (znm i) "[I" ∈ lw_tbl) ∧ Cond.laysStatic "java/lang/String" "COMPACT_STRINGS" "Z" ∈ lw_tbl ∧ Cond.laysStatic "jdk/internal/util/Preconditions" "SIOOBE_FORMATTER" "Ljava/util/function/BiFunction;" ∈ lw_tbl := by decide +kernel
set_option maxRecDepth 100000 in
theorem tb_ini : Cond.initialized "WindowRing" ∈ lw_tbl ∧ Cond.initialized "java/lang/String" ∈ lw_tbl ∧ Cond.initialized "jdk/internal/util/Preconditions" ∈ lw_tbl := by decide +kernel
set_option maxRecDepth 100000 in
theorem tb_arr : Cond.arrayOver (.object RX4) ∈ lw_tbl ∧ Cond.arrayOver (.object RX5) ∈ lw_tbl ∧ Cond.arrayOver (.object RX7) ∈ lw_tbl ∧ Cond.fieldLinkNest RX0 9 "WindowRing" "NOTHING" "[I" "WindowRing" ∈ lw_tbl := by decide +kernel
