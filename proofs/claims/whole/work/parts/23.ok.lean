/-! the instructions, held against the bytes: printed by wip/whole/code.py -/
set_option maxRecDepth 100000 in
theorem okX3_readTaskNumber : ∀ q ∈ kX3_readTaskNumber, zick (zmt 42).2.1 42 q = true := List.all_eq_true.mp (show kX3_readTaskNumber.all (zick cX3_readTaskNumber 42) = true by decide +kernel)
set_option maxRecDepth 100000 in
theorem okX3_readTaskEnd : ∀ q ∈ kX3_readTaskEnd, zick (zmt 43).2.1 43 q = true := List.all_eq_true.mp (show kX3_readTaskEnd.all (zick cX3_readTaskEnd 43) = true by decide +kernel)
set_option maxRecDepth 100000 in
theorem okX3_readFormula : ∀ q ∈ kX3_readFormula, zick (zmt 44).2.1 44 q = true := List.all_eq_true.mp (show kX3_readFormula.all (zick cX3_readFormula 44) = true by decide +kernel)
set_option maxRecDepth 100000 in
theorem okX3_readSum : ∀ q ∈ kX3_readSum, zick (zmt 45).2.1 45 q = true := List.all_eq_true.mp (show kX3_readSum.all (zick cX3_readSum 45) = true by decide +kernel)
set_option maxRecDepth 100000 in
theorem okX3_readTerm : ∀ q ∈ kX3_readTerm, zick (zmt 46).2.1 46 q = true := List.all_eq_true.mp (show kX3_readTerm.all (zick cX3_readTerm 46) = true by decide +kernel)
set_option maxRecDepth 100000 in
theorem okX3_readUnit : ∀ q ∈ kX3_readUnit, zick (zmt 47).2.1 47 q = true := List.all_eq_true.mp (show kX3_readUnit.all (zick cX3_readUnit 47) = true by decide +kernel)
set_option maxRecDepth 100000 in
theorem okX3_readNamed : ∀ q ∈ kX3_readNamed, zick (zmt 48).2.1 48 q = true := List.all_eq_true.mp (show kX3_readNamed.all (zick cX3_readNamed 48) = true by decide +kernel)
set_option maxRecDepth 100000 in
theorem okX3_readArguments : ∀ q ∈ kX3_readArguments, zick (zmt 49).2.1 49 q = true := List.all_eq_true.mp (show kX3_readArguments.all (zick cX3_readArguments 49) = true by decide +kernel)
set_option maxRecDepth 100000 in
theorem okX4_init : ∀ q ∈ kX4_init, zick (zmt 50).2.1 50 q = true := List.all_eq_true.mp (show kX4_init.all (zick cX4_init 50) = true by decide +kernel)
