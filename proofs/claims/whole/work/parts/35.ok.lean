/-! the instructions, held against the bytes: printed by wip/whole/code.py -/
set_option maxRecDepth 100000 in
theorem okX9_tellTrap : ∀ q ∈ kX9_tellTrap, zick (zmt 247).2.1 247 q = true := List.all_eq_true.mp (show kX9_tellTrap.all (zick cX9_tellTrap 247) = true by decide +kernel)
set_option maxRecDepth 100000 in
theorem okX9_makeRoom : ∀ q ∈ kX9_makeRoom, zick (zmt 248).2.1 248 q = true := List.all_eq_true.mp (show kX9_makeRoom.all (zick cX9_makeRoom 248) = true by decide +kernel)
set_option maxRecDepth 100000 in
theorem okX9_come : ∀ q ∈ kX9_come, zick (zmt 249).2.1 249 q = true := List.all_eq_true.mp (show kX9_come.all (zick cX9_come 249) = true by decide +kernel)
set_option maxRecDepth 100000 in
theorem okX9_wanted : ∀ q ∈ kX9_wanted, zick (zmt 250).2.1 250 q = true := List.all_eq_true.mp (show kX9_wanted.all (zick cX9_wanted 250) = true by decide +kernel)
set_option maxRecDepth 100000 in
theorem okX9_doBegin : ∀ q ∈ kX9_doBegin, zick (zmt 251).2.1 251 q = true := List.all_eq_true.mp (show kX9_doBegin.all (zick cX9_doBegin 251) = true by decide +kernel)
set_option maxRecDepth 100000 in
theorem okX9_comeBack : ∀ q ∈ kX9_comeBack, zick (zmt 252).2.1 252 q = true := List.all_eq_true.mp (show kX9_comeBack.all (zick cX9_comeBack 252) = true by decide +kernel)
set_option maxRecDepth 100000 in
theorem okX9_doFail : ∀ q ∈ kX9_doFail, zick (zmt 253).2.1 253 q = true := List.all_eq_true.mp (show kX9_doFail.all (zick cX9_doFail 253) = true by decide +kernel)
set_option maxRecDepth 100000 in
theorem okX9_doCall : ∀ q ∈ kX9_doCall, zick (zmt 254).2.1 254 q = true := List.all_eq_true.mp (show kX9_doCall.all (zick cX9_doCall 254) = true by decide +kernel)
set_option maxRecDepth 100000 in
theorem okX9_doReturn : ∀ q ∈ kX9_doReturn, zick (zmt 255).2.1 255 q = true := List.all_eq_true.mp (show kX9_doReturn.all (zick cX9_doReturn 255) = true by decide +kernel)
set_option maxRecDepth 100000 in
theorem okX9_fill : ∀ q ∈ kX9_fill, zick (zmt 256).2.1 256 q = true := List.all_eq_true.mp (show kX9_fill.all (zick cX9_fill 256) = true by decide +kernel)
set_option maxRecDepth 100000 in
theorem okX9_isOver : ∀ q ∈ kX9_isOver, zick (zmt 257).2.1 257 q = true := List.all_eq_true.mp (show kX9_isOver.all (zick cX9_isOver 257) = true by decide +kernel)
set_option maxRecDepth 100000 in
theorem okX9_passOn : ∀ q ∈ kX9_passOn, zick (zmt 258).2.1 258 q = true := List.all_eq_true.mp (show kX9_passOn.all (zick cX9_passOn 258) = true by decide +kernel)
set_option maxRecDepth 100000 in
theorem okX9_goEvent : ∀ q ∈ kX9_goEvent, zick (zmt 259).2.1 259 q = true := List.all_eq_true.mp (show kX9_goEvent.all (zick cX9_goEvent 259) = true by decide +kernel)
set_option maxRecDepth 100000 in
theorem okX9_goEvents : ∀ q ∈ kX9_goEvents, zick (zmt 260).2.1 260 q = true := List.all_eq_true.mp (show kX9_goEvents.all (zick cX9_goEvents 260) = true by decide +kernel)
