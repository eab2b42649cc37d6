/-! the instructions, held against the bytes: printed by wip/whole/code.py -/
set_option maxRecDepth 100000 in
theorem okL_law : ∀ q ∈ kL_law, zick (zmt 297).2.1 297 q = true := List.all_eq_true.mp (show kL_law.all (zick cL_law 297) = true by decide +kernel)
