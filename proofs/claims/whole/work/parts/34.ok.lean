/-! the instructions, held against the bytes: printed by wip/whole/code.py -/
set_option maxRecDepth 100000 in
theorem okX9_goPlain : ∀ q ∈ kX9_goPlain, zick (zmt 228).2.1 228 q = true := List.all_eq_true.mp (show kX9_goPlain.all (zick cX9_goPlain 228) = true by decide +kernel)
set_option maxRecDepth 100000 in
theorem okX9_give : ∀ q ∈ kX9_give, zick (zmt 229).2.1 229 q = true := List.all_eq_true.mp (show kX9_give.all (zick cX9_give 229) = true by decide +kernel)
set_option maxRecDepth 100000 in
theorem okX9_functionOf : ∀ q ∈ kX9_functionOf, zick (zmt 230).2.1 230 q = true := List.all_eq_true.mp (show kX9_functionOf.all (zick cX9_functionOf 230) = true by decide +kernel)
set_option maxRecDepth 100000 in
theorem okX9_giveTask : ∀ q ∈ kX9_giveTask, zick (zmt 231).2.1 231 q = true := List.all_eq_true.mp (show kX9_giveTask.all (zick cX9_giveTask 231) = true by decide +kernel)
set_option maxRecDepth 100000 in
theorem okX9_goTaskPlain : ∀ q ∈ kX9_goTaskPlain, zick (zmt 232).2.1 232 q = true := List.all_eq_true.mp (show kX9_goTaskPlain.all (zick cX9_goTaskPlain 232) = true by decide +kernel)
set_option maxRecDepth 100000 in
theorem okX9_plain : ∀ q ∈ kX9_plain, zick (zmt 233).2.1 233 q = true := List.all_eq_true.mp (show kX9_plain.all (zick cX9_plain 233) = true by decide +kernel)
set_option maxRecDepth 100000 in
theorem okX9_profile : ∀ q ∈ kX9_profile, zick (zmt 234).2.1 234 q = true := List.all_eq_true.mp (show kX9_profile.all (zick cX9_profile 234) = true by decide +kernel)
set_option maxRecDepth 100000 in
theorem okX9_depths : ∀ q ∈ kX9_depths, zick (zmt 235).2.1 235 q = true := List.all_eq_true.mp (show kX9_depths.all (zick cX9_depths 235) = true by decide +kernel)
set_option maxRecDepth 100000 in
theorem okX9_suits : ∀ q ∈ kX9_suits, zick (zmt 236).2.1 236 q = true := List.all_eq_true.mp (show kX9_suits.all (zick cX9_suits 236) = true by decide +kernel)
set_option maxRecDepth 100000 in
theorem okX9_least : ∀ q ∈ kX9_least, zick (zmt 237).2.1 237 q = true := List.all_eq_true.mp (show kX9_least.all (zick cX9_least 237) = true by decide +kernel)
set_option maxRecDepth 100000 in
theorem okX9_callCost : ∀ q ∈ kX9_callCost, zick (zmt 238).2.1 238 q = true := List.all_eq_true.mp (show kX9_callCost.all (zick cX9_callCost 238) = true by decide +kernel)
set_option maxRecDepth 100000 in
theorem okX9_returnCost : ∀ q ∈ kX9_returnCost, zick (zmt 239).2.1 239 q = true := List.all_eq_true.mp (show kX9_returnCost.all (zick cX9_returnCost 239) = true by decide +kernel)
set_option maxRecDepth 100000 in
theorem okX9_isFree : ∀ q ∈ kX9_isFree, zick (zmt 240).2.1 240 q = true := List.all_eq_true.mp (show kX9_isFree.all (zick cX9_isFree 240) = true by decide +kernel)
set_option maxRecDepth 100000 in
theorem okX9_behind : ∀ q ∈ kX9_behind, zick (zmt 241).2.1 241 q = true := List.all_eq_true.mp (show kX9_behind.all (zick cX9_behind 241) = true by decide +kernel)
set_option maxRecDepth 100000 in
theorem okX9_place : ∀ q ∈ kX9_place, zick (zmt 242).2.1 242 q = true := List.all_eq_true.mp (show kX9_place.all (zick cX9_place 242) = true by decide +kernel)
set_option maxRecDepth 100000 in
theorem okX9_free : ∀ q ∈ kX9_free, zick (zmt 243).2.1 243 q = true := List.all_eq_true.mp (show kX9_free.all (zick cX9_free 243) = true by decide +kernel)
set_option maxRecDepth 100000 in
theorem okX9_windowOf : ∀ q ∈ kX9_windowOf, zick (zmt 244).2.1 244 q = true := List.all_eq_true.mp (show kX9_windowOf.all (zick cX9_windowOf 244) = true by decide +kernel)
set_option maxRecDepth 100000 in
theorem okX9_askOver : ∀ q ∈ kX9_askOver, zick (zmt 245).2.1 245 q = true := List.all_eq_true.mp (show kX9_askOver.all (zick cX9_askOver 245) = true by decide +kernel)
set_option maxRecDepth 100000 in
theorem okX9_askUnder : ∀ q ∈ kX9_askUnder, zick (zmt 246).2.1 246 q = true := List.all_eq_true.mp (show kX9_askUnder.all (zick cX9_askUnder 246) = true by decide +kernel)
