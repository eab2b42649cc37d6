/-! the instructions, held against the bytes: printed by wip/whole/code.py -/
set_option maxRecDepth 100000 in
theorem okX9_readTask : ∀ q ∈ kX9_readTask, zick (zmt 181).2.1 181 q = true := List.all_eq_true.mp (show kX9_readTask.all (zick cX9_readTask 181) = true by decide +kernel)
set_option maxRecDepth 100000 in
theorem okX9_readGiven : ∀ q ∈ kX9_readGiven, zick (zmt 182).2.1 182 q = true := List.all_eq_true.mp (show kX9_readGiven.all (zick cX9_readGiven 182) = true by decide +kernel)
set_option maxRecDepth 100000 in
theorem okX9_readDef : ∀ q ∈ kX9_readDef, zick (zmt 183).2.1 183 q = true := List.all_eq_true.mp (show kX9_readDef.all (zick cX9_readDef 183) = true by decide +kernel)
set_option maxRecDepth 100000 in
theorem okX9_lay : ∀ q ∈ kX9_lay, zick (zmt 184).2.1 184 q = true := List.all_eq_true.mp (show kX9_lay.all (zick cX9_lay 184) = true by decide +kernel)
set_option maxRecDepth 100000 in
theorem okX9_push : ∀ q ∈ kX9_push, zick (zmt 185).2.1 185 q = true := List.all_eq_true.mp (show kX9_push.all (zick cX9_push 185) = true by decide +kernel)
set_option maxRecDepth 100000 in
theorem okX9_top : ∀ q ∈ kX9_top, zick (zmt 186).2.1 186 q = true := List.all_eq_true.mp (show kX9_top.all (zick cX9_top 186) = true by decide +kernel)
set_option maxRecDepth 100000 in
theorem okX9_bindsBy : ∀ q ∈ kX9_bindsBy, zick (zmt 187).2.1 187 q = true := List.all_eq_true.mp (show kX9_bindsBy.all (zick cX9_bindsBy 187) = true by decide +kernel)
set_option maxRecDepth 100000 in
theorem okX9_between : ∀ q ∈ kX9_between, zick (zmt 188).2.1 188 q = true := List.all_eq_true.mp (show kX9_between.all (zick cX9_between 188) = true by decide +kernel)
set_option maxRecDepth 100000 in
theorem okX9_readBody : ∀ q ∈ kX9_readBody, zick (zmt 189).2.1 189 q = true := List.all_eq_true.mp (show kX9_readBody.all (zick cX9_readBody 189) = true by decide +kernel)
set_option maxRecDepth 100000 in
theorem okX9_isTooMany : ∀ q ∈ kX9_isTooMany, zick (zmt 190).2.1 190 q = true := List.all_eq_true.mp (show kX9_isTooMany.all (zick cX9_isTooMany 190) = true by decide +kernel)
set_option maxRecDepth 100000 in
theorem okX9_openIf : ∀ q ∈ kX9_openIf, zick (zmt 191).2.1 191 q = true := List.all_eq_true.mp (show kX9_openIf.all (zick cX9_openIf 191) = true by decide +kernel)
