/-! the instructions, held against the bytes: printed by wip/whole/code.py -/
set_option maxRecDepth 100000 in
theorem okX9_alone : ∀ q ∈ kX9_alone, zick (zmt 287).2.1 287 q = true := List.all_eq_true.mp (show kX9_alone.all (zick cX9_alone 287) = true by decide +kernel)
set_option maxRecDepth 100000 in
theorem okX9_keepAct : ∀ q ∈ kX9_keepAct, zick (zmt 288).2.1 288 q = true := List.all_eq_true.mp (show kX9_keepAct.all (zick cX9_keepAct 288) = true by decide +kernel)
set_option maxRecDepth 100000 in
theorem okX9_swapAll : ∀ q ∈ kX9_swapAll, zick (zmt 289).2.1 289 q = true := List.all_eq_true.mp (show kX9_swapAll.all (zick cX9_swapAll 289) = true by decide +kernel)
set_option maxRecDepth 100000 in
theorem okX9_undo : ∀ q ∈ kX9_undo, zick (zmt 290).2.1 290 q = true := List.all_eq_true.mp (show kX9_undo.all (zick cX9_undo 290) = true by decide +kernel)
set_option maxRecDepth 100000 in
theorem okX9_redo : ∀ q ∈ kX9_redo, zick (zmt 291).2.1 291 q = true := List.all_eq_true.mp (show kX9_redo.all (zick cX9_redo 291) = true by decide +kernel)
set_option maxRecDepth 100000 in
theorem okX9_image : ∀ q ∈ kX9_image, zick (zmt 292).2.1 292 q = true := List.all_eq_true.mp (show kX9_image.all (zick cX9_image 292) = true by decide +kernel)
set_option maxRecDepth 100000 in
theorem okX9_back : ∀ q ∈ kX9_back, zick (zmt 293).2.1 293 q = true := List.all_eq_true.mp (show kX9_back.all (zick cX9_back 293) = true by decide +kernel)
set_option maxRecDepth 100000 in
theorem okX9_freeMany : ∀ q ∈ kX9_freeMany, zick (zmt 294).2.1 294 q = true := List.all_eq_true.mp (show kX9_freeMany.all (zick cX9_freeMany 294) = true by decide +kernel)
set_option maxRecDepth 100000 in
theorem okX9_about : ∀ q ∈ kX9_about, zick (zmt 295).2.1 295 q = true := List.all_eq_true.mp (show kX9_about.all (zick cX9_about 295) = true by decide +kernel)
set_option maxRecDepth 100000 in
theorem okJ7_fill_53178 : ∀ q ∈ kJ7_fill_53178, zick (zmt 296).2.1 296 q = true := List.all_eq_true.mp (show kJ7_fill_53178.all (zick cJ7_fill_53178 296) = true by decide +kernel)
set_option maxRecDepth 100000 in
theorem okJ0_length_8abf5 : ∀ q ∈ kJ0_length_8abf5, zick (zmt 297).2.1 297 q = true := List.all_eq_true.mp (show kJ0_length_8abf5.all (zick cJ0_length_8abf5 297) = true by decide +kernel)
set_option maxRecDepth 100000 in
theorem okJ0_coder_7d493 : ∀ q ∈ kJ0_coder_7d493, zick (zmt 298).2.1 298 q = true := List.all_eq_true.mp (show kJ0_coder_7d493.all (zick cJ0_coder_7d493 298) = true by decide +kernel)
set_option maxRecDepth 100000 in
theorem okJ0_isLatin1_aae02 : ∀ q ∈ kJ0_isLatin1_aae02, zick (zmt 299).2.1 299 q = true := List.all_eq_true.mp (show kJ0_isLatin1_aae02.all (zick cJ0_isLatin1_aae02 299) = true by decide +kernel)
set_option maxRecDepth 100000 in
theorem okJ0_charAt_5068e : ∀ q ∈ kJ0_charAt_5068e, zick (zmt 300).2.1 300 q = true := List.all_eq_true.mp (show kJ0_charAt_5068e.all (zick cJ0_charAt_5068e 300) = true by decide +kernel)
set_option maxRecDepth 100000 in
theorem okJ0_indexOf_0f7a4 : ∀ q ∈ kJ0_indexOf_0f7a4, zick (zmt 301).2.1 301 q = true := List.all_eq_true.mp (show kJ0_indexOf_0f7a4.all (zick cJ0_indexOf_0f7a4 301) = true by decide +kernel)
set_option maxRecDepth 100000 in
theorem okJ0_indexOf_7cf53 : ∀ q ∈ kJ0_indexOf_7cf53, zick (zmt 302).2.1 302 q = true := List.all_eq_true.mp (show kJ0_indexOf_7cf53.all (zick cJ0_indexOf_7cf53 302) = true by decide +kernel)
set_option maxRecDepth 100000 in
theorem okJ1_charAt_3b067 : ∀ q ∈ kJ1_charAt_3b067, zick (zmt 303).2.1 303 q = true := List.all_eq_true.mp (show kJ1_charAt_3b067.all (zick cJ1_charAt_3b067 303) = true by decide +kernel)
set_option maxRecDepth 100000 in
theorem okJ1_canEncode_9a6ad : ∀ q ∈ kJ1_canEncode_9a6ad, zick (zmt 304).2.1 304 q = true := List.all_eq_true.mp (show kJ1_canEncode_9a6ad.all (zick cJ1_canEncode_9a6ad 304) = true by decide +kernel)
set_option maxRecDepth 100000 in
theorem okJ1_indexOf_4cfef : ∀ q ∈ kJ1_indexOf_4cfef, zick (zmt 305).2.1 305 q = true := List.all_eq_true.mp (show kJ1_indexOf_4cfef.all (zick cJ1_indexOf_4cfef 305) = true by decide +kernel)
set_option maxRecDepth 100000 in
theorem okJ1_indexOfChar_4cfef : ∀ q ∈ kJ1_indexOfChar_4cfef, zick (zmt 306).2.1 306 q = true := List.all_eq_true.mp (show kJ1_indexOfChar_4cfef.all (zick cJ1_indexOfChar_4cfef 306) = true by decide +kernel)
