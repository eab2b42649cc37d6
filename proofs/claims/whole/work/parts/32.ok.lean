/-! the instructions, held against the bytes: printed by wip/whole/code.py -/
set_option maxRecDepth 100000 in
theorem okX9_readUnit : ∀ q ∈ kX9_readUnit, zick (zmt 192).2.1 192 q = true := List.all_eq_true.mp (show kX9_readUnit.all (zick cX9_readUnit 192) = true by decide +kernel)
set_option maxRecDepth 100000 in
theorem okX9_isOpenBehind : ∀ q ∈ kX9_isOpenBehind, zick (zmt 193).2.1 193 q = true := List.all_eq_true.mp (show kX9_isOpenBehind.all (zick cX9_isOpenBehind 193) = true by decide +kernel)
set_option maxRecDepth 100000 in
theorem okX9_closeMinus : ∀ q ∈ kX9_closeMinus, zick (zmt 194).2.1 194 q = true := List.all_eq_true.mp (show kX9_closeMinus.all (zick cX9_closeMinus 194) = true by decide +kernel)
set_option maxRecDepth 100000 in
theorem okX9_endCall : ∀ q ∈ kX9_endCall, zick (zmt 195).2.1 195 q = true := List.all_eq_true.mp (show kX9_endCall.all (zick cX9_endCall 195) = true by decide +kernel)
set_option maxRecDepth 100000 in
theorem okX9_close : ∀ q ∈ kX9_close, zick (zmt 196).2.1 196 q = true := List.all_eq_true.mp (show kX9_close.all (zick cX9_close 196) = true by decide +kernel)
set_option maxRecDepth 100000 in
theorem okX9_goBehind : ∀ q ∈ kX9_goBehind, zick (zmt 197).2.1 197 q = true := List.all_eq_true.mp (show kX9_goBehind.all (zick cX9_goBehind 197) = true by decide +kernel)
set_option maxRecDepth 100000 in
theorem okX9_layTop : ∀ q ∈ kX9_layTop, zick (zmt 198).2.1 198 q = true := List.all_eq_true.mp (show kX9_layTop.all (zick cX9_layTop 198) = true by decide +kernel)
set_option maxRecDepth 100000 in
theorem okX9_endSum : ∀ q ∈ kX9_endSum, zick (zmt 199).2.1 199 q = true := List.all_eq_true.mp (show kX9_endSum.all (zick cX9_endSum 199) = true by decide +kernel)
set_option maxRecDepth 100000 in
theorem okX9_goAgainst : ∀ q ∈ kX9_goAgainst, zick (zmt 200).2.1 200 q = true := List.all_eq_true.mp (show kX9_goAgainst.all (zick cX9_goAgainst 200) = true by decide +kernel)
set_option maxRecDepth 100000 in
theorem okX9_goThen : ∀ q ∈ kX9_goThen, zick (zmt 201).2.1 201 q = true := List.all_eq_true.mp (show kX9_goThen.all (zick cX9_goThen 201) = true by decide +kernel)
set_option maxRecDepth 100000 in
theorem okX9_goElse : ∀ q ∈ kX9_goElse, zick (zmt 202).2.1 202 q = true := List.all_eq_true.mp (show kX9_goElse.all (zick cX9_goElse 202) = true by decide +kernel)
set_option maxRecDepth 100000 in
theorem okX9_goInCall : ∀ q ∈ kX9_goInCall, zick (zmt 203).2.1 203 q = true := List.all_eq_true.mp (show kX9_goInCall.all (zick cX9_goInCall 203) = true by decide +kernel)
