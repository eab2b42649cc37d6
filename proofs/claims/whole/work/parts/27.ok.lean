/-! the instructions, held against the bytes: printed by wip/whole/code.py -/
set_option maxRecDepth 100000 in
theorem okX8_store : ∀ q ∈ kX8_store, zick (zmt 111).2.1 111 q = true := List.all_eq_true.mp (show kX8_store.all (zick cX8_store 111) = true by decide +kernel)
set_option maxRecDepth 100000 in
theorem okX8_fault : ∀ q ∈ kX8_fault, zick (zmt 112).2.1 112 q = true := List.all_eq_true.mp (show kX8_fault.all (zick cX8_fault 112) = true by decide +kernel)
set_option maxRecDepth 100000 in
theorem okX8_run : ∀ q ∈ kX8_run, zick (zmt 113).2.1 113 q = true := List.all_eq_true.mp (show kX8_run.all (zick cX8_run 113) = true by decide +kernel)
set_option maxRecDepth 100000 in
theorem okX8_handler : ∀ q ∈ kX8_handler, zick (zmt 114).2.1 114 q = true := List.all_eq_true.mp (show kX8_handler.all (zick cX8_handler 114) = true by decide +kernel)
set_option maxRecDepth 100000 in
theorem okX8_price : ∀ q ∈ kX8_price, zick (zmt 115).2.1 115 q = true := List.all_eq_true.mp (show kX8_price.all (zick cX8_price 115) = true by decide +kernel)
set_option maxRecDepth 100000 in
theorem okX8_slice : ∀ q ∈ kX8_slice, zick (zmt 116).2.1 116 q = true := List.all_eq_true.mp (show kX8_slice.all (zick cX8_slice 116) = true by decide +kernel)
set_option maxRecDepth 100000 in
theorem okX8_again : ∀ q ∈ kX8_again, zick (zmt 117).2.1 117 q = true := List.all_eq_true.mp (show kX8_again.all (zick cX8_again 117) = true by decide +kernel)
set_option maxRecDepth 100000 in
theorem okX8_undo : ∀ q ∈ kX8_undo, zick (zmt 118).2.1 118 q = true := List.all_eq_true.mp (show kX8_undo.all (zick cX8_undo 118) = true by decide +kernel)
set_option maxRecDepth 100000 in
theorem okX8_redo : ∀ q ∈ kX8_redo, zick (zmt 119).2.1 119 q = true := List.all_eq_true.mp (show kX8_redo.all (zick cX8_redo 119) = true by decide +kernel)
set_option maxRecDepth 100000 in
theorem okX8_task : ∀ q ∈ kX8_task, zick (zmt 120).2.1 120 q = true := List.all_eq_true.mp (show kX8_task.all (zick cX8_task 120) = true by decide +kernel)
set_option maxRecDepth 100000 in
theorem okX8_result : ∀ q ∈ kX8_result, zick (zmt 121).2.1 121 q = true := List.all_eq_true.mp (show kX8_result.all (zick cX8_result 121) = true by decide +kernel)
set_option maxRecDepth 100000 in
theorem okX8_window : ∀ q ∈ kX8_window, zick (zmt 122).2.1 122 q = true := List.all_eq_true.mp (show kX8_window.all (zick cX8_window 122) = true by decide +kernel)
set_option maxRecDepth 100000 in
theorem okX8_register : ∀ q ∈ kX8_register, zick (zmt 123).2.1 123 q = true := List.all_eq_true.mp (show kX8_register.all (zick cX8_register 123) = true by decide +kernel)
set_option maxRecDepth 100000 in
theorem okX8_value : ∀ q ∈ kX8_value, zick (zmt 124).2.1 124 q = true := List.all_eq_true.mp (show kX8_value.all (zick cX8_value 124) = true by decide +kernel)
set_option maxRecDepth 100000 in
theorem okX8_where : ∀ q ∈ kX8_where, zick (zmt 125).2.1 125 q = true := List.all_eq_true.mp (show kX8_where.all (zick cX8_where 125) = true by decide +kernel)
set_option maxRecDepth 100000 in
theorem okX8_plain : ∀ q ∈ kX8_plain, zick (zmt 126).2.1 126 q = true := List.all_eq_true.mp (show kX8_plain.all (zick cX8_plain 126) = true by decide +kernel)
set_option maxRecDepth 100000 in
theorem okX8_profile : ∀ q ∈ kX8_profile, zick (zmt 127).2.1 127 q = true := List.all_eq_true.mp (show kX8_profile.all (zick cX8_profile 127) = true by decide +kernel)
set_option maxRecDepth 100000 in
theorem okX8_depths : ∀ q ∈ kX8_depths, zick (zmt 128).2.1 128 q = true := List.all_eq_true.mp (show kX8_depths.all (zick cX8_depths 128) = true by decide +kernel)
set_option maxRecDepth 100000 in
theorem okX8_alone : ∀ q ∈ kX8_alone, zick (zmt 129).2.1 129 q = true := List.all_eq_true.mp (show kX8_alone.all (zick cX8_alone 129) = true by decide +kernel)
set_option maxRecDepth 100000 in
theorem okX8_least : ∀ q ∈ kX8_least, zick (zmt 130).2.1 130 q = true := List.all_eq_true.mp (show kX8_least.all (zick cX8_least 130) = true by decide +kernel)
set_option maxRecDepth 100000 in
theorem okX8_suits : ∀ q ∈ kX8_suits, zick (zmt 131).2.1 131 q = true := List.all_eq_true.mp (show kX8_suits.all (zick cX8_suits 131) = true by decide +kernel)
set_option maxRecDepth 100000 in
theorem okX8_would : ∀ q ∈ kX8_would, zick (zmt 132).2.1 132 q = true := List.all_eq_true.mp (show kX8_would.all (zick cX8_would 132) = true by decide +kernel)
