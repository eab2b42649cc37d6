/-! the instructions, held against the bytes: printed by wip/whole/code.py -/
set_option maxRecDepth 100000 in
theorem okX9_alone : ∀ q ∈ kX9_alone, zick (zmt 287).2.1 287 q = true := List.all_eq_true.mp (show kX9_alone.all (zick cX9_alone 287) = true by decide +kernel)
set_option maxRecDepth 100000 in
theorem okX9_keepAct : ∀ q ∈ kX9_keepAct, zick (zmt 288).2.1 288 q = true := List.all_eq_true.mp (show kX9_keepAct.all (zick cX9_keepAct 288) = true by decide +kernel)
set_option maxRecDepth 100000 in
theorem okX9_swapAll : ∀ q ∈ kX9_swapAll, zick (zmt 289).2.1 289 q = true := List.all_eq_true.mp (show kX9_swapAll.all (zick cX9_swapAll 289) = true by decide +kernel)
set_option maxRecDepth 100000 in
theorem okX9_undo : ∀ q ∈ kX9_undo, zick (zmt 290).2.1 290 q = true := List.all_eq_true.mp (show kX9_undo.all (zick cX9_undo 290) = true by decide +kernel)
set_option maxRecDepth 100000 in
theorem okX9_redo : ∀ q ∈ kX9_redo, zick (zmt 291).2.1 291 q = true := List.all_eq_true.mp (show kX9_redo.all (zick cX9_redo 291) = true by decide +kernel)
set_option maxRecDepth 100000 in
theorem okX9_image : ∀ q ∈ kX9_image, zick (zmt 292).2.1 292 q = true := List.all_eq_true.mp (show kX9_image.all (zick cX9_image 292) = true by decide +kernel)
set_option maxRecDepth 100000 in
theorem okX9_back : ∀ q ∈ kX9_back, zick (zmt 293).2.1 293 q = true := List.all_eq_true.mp (show kX9_back.all (zick cX9_back 293) = true by decide +kernel)
set_option maxRecDepth 100000 in
theorem okX9_freeMany : ∀ q ∈ kX9_freeMany, zick (zmt 294).2.1 294 q = true := List.all_eq_true.mp (show kX9_freeMany.all (zick cX9_freeMany 294) = true by decide +kernel)
set_option maxRecDepth 100000 in
theorem okX9_about : ∀ q ∈ kX9_about, zick (zmt 295).2.1 295 q = true := List.all_eq_true.mp (show kX9_about.all (zick cX9_about 295) = true by decide +kernel)
set_option maxRecDepth 100000 in
theorem okJ7_fill_53178 : ∀ q ∈ kJ7_fill_53178, zick (zmt 296).2.1 296 q = true := List.all_eq_true.mp (show kJ7_fill_53178.all (zick cJ7_fill_53178 296) = true by decide +kernel)
