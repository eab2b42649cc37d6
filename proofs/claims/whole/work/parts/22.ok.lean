/-! the instructions, held against the bytes: printed by wip/whole/code.py -/
set_option maxRecDepth 100000 in
theorem okX2_emit : ∀ q ∈ kX2_emit, zick (zmt 24).2.1 24 q = true := List.all_eq_true.mp (show kX2_emit.all (zick cX2_emit 24) = true by decide +kernel)
set_option maxRecDepth 100000 in
theorem okX3_init : ∀ q ∈ kX3_init, zick (zmt 25).2.1 25 q = true := List.all_eq_true.mp (show kX3_init.all (zick cX3_init 25) = true by decide +kernel)
set_option maxRecDepth 100000 in
theorem okX3_readStore : ∀ q ∈ kX3_readStore, zick (zmt 26).2.1 26 q = true := List.all_eq_true.mp (show kX3_readStore.all (zick cX3_readStore 26) = true by decide +kernel)
set_option maxRecDepth 100000 in
theorem okX3_refuse : ∀ q ∈ kX3_refuse, zick (zmt 27).2.1 27 q = true := List.all_eq_true.mp (show kX3_refuse.all (zick cX3_refuse 27) = true by decide +kernel)
set_option maxRecDepth 100000 in
theorem okX3_refuseToken : ∀ q ∈ kX3_refuseToken, zick (zmt 28).2.1 28 q = true := List.all_eq_true.mp (show kX3_refuseToken.all (zick cX3_refuseToken 28) = true by decide +kernel)
set_option maxRecDepth 100000 in
theorem okX3_readWindows : ∀ q ∈ kX3_readWindows, zick (zmt 29).2.1 29 q = true := List.all_eq_true.mp (show kX3_readWindows.all (zick cX3_readWindows 29) = true by decide +kernel)
set_option maxRecDepth 100000 in
theorem okX3_readHandler : ∀ q ∈ kX3_readHandler, zick (zmt 30).2.1 30 q = true := List.all_eq_true.mp (show kX3_readHandler.all (zick cX3_readHandler 30) = true by decide +kernel)
set_option maxRecDepth 100000 in
theorem okX3_readSlice : ∀ q ∈ kX3_readSlice, zick (zmt 31).2.1 31 q = true := List.all_eq_true.mp (show kX3_readSlice.all (zick cX3_readSlice 31) = true by decide +kernel)
set_option maxRecDepth 100000 in
theorem okX3_readPrice : ∀ q ∈ kX3_readPrice, zick (zmt 32).2.1 32 q = true := List.all_eq_true.mp (show kX3_readPrice.all (zick cX3_readPrice 32) = true by decide +kernel)
set_option maxRecDepth 100000 in
theorem okX3_readFirstTold : ∀ q ∈ kX3_readFirstTold, zick (zmt 33).2.1 33 q = true := List.all_eq_true.mp (show kX3_readFirstTold.all (zick cX3_readFirstTold 33) = true by decide +kernel)
set_option maxRecDepth 100000 in
theorem okX3_readNumber : ∀ q ∈ kX3_readNumber, zick (zmt 34).2.1 34 q = true := List.all_eq_true.mp (show kX3_readNumber.all (zick cX3_readNumber 34) = true by decide +kernel)
set_option maxRecDepth 100000 in
theorem okX3_readSign : ∀ q ∈ kX3_readSign, zick (zmt 35).2.1 35 q = true := List.all_eq_true.mp (show kX3_readSign.all (zick cX3_readSign 35) = true by decide +kernel)
set_option maxRecDepth 100000 in
theorem okX3_readFunction : ∀ q ∈ kX3_readFunction, zick (zmt 36).2.1 36 q = true := List.all_eq_true.mp (show kX3_readFunction.all (zick cX3_readFunction 36) = true by decide +kernel)
set_option maxRecDepth 100000 in
theorem okX3_readNewName : ∀ q ∈ kX3_readNewName, zick (zmt 37).2.1 37 q = true := List.all_eq_true.mp (show kX3_readNewName.all (zick cX3_readNewName 37) = true by decide +kernel)
set_option maxRecDepth 100000 in
theorem okX3_readParameters : ∀ q ∈ kX3_readParameters, zick (zmt 38).2.1 38 q = true := List.all_eq_true.mp (show kX3_readParameters.all (zick cX3_readParameters 38) = true by decide +kernel)
set_option maxRecDepth 100000 in
theorem okX3_functionNamed : ∀ q ∈ kX3_functionNamed, zick (zmt 39).2.1 39 q = true := List.all_eq_true.mp (show kX3_functionNamed.all (zick cX3_functionNamed 39) = true by decide +kernel)
set_option maxRecDepth 100000 in
theorem okX3_parameterNamed : ∀ q ∈ kX3_parameterNamed, zick (zmt 40).2.1 40 q = true := List.all_eq_true.mp (show kX3_parameterNamed.all (zick cX3_parameterNamed 40) = true by decide +kernel)
set_option maxRecDepth 100000 in
theorem okX3_readTask : ∀ q ∈ kX3_readTask, zick (zmt 41).2.1 41 q = true := List.all_eq_true.mp (show kX3_readTask.all (zick cX3_readTask 41) = true by decide +kernel)
