/-! the instructions, held against the bytes: printed by wip/whole/code.py -/
set_option maxRecDepth 100000 in
theorem okX9_cost : ∀ q ∈ kX9_cost, zick (zmt 261).2.1 261 q = true := List.all_eq_true.mp (show kX9_cost.all (zick cX9_cost 261) = true by decide +kernel)
set_option maxRecDepth 100000 in
theorem okX9_run : ∀ q ∈ kX9_run, zick (zmt 262).2.1 262 q = true := List.all_eq_true.mp (show kX9_run.all (zick cX9_run 262) = true by decide +kernel)
set_option maxRecDepth 100000 in
theorem okX9_isWay : ∀ q ∈ kX9_isWay, zick (zmt 263).2.1 263 q = true := List.all_eq_true.mp (show kX9_isWay.all (zick cX9_isWay 263) = true by decide +kernel)
set_option maxRecDepth 100000 in
theorem okX9_setWay : ∀ q ∈ kX9_setWay, zick (zmt 264).2.1 264 q = true := List.all_eq_true.mp (show kX9_setWay.all (zick cX9_setWay 264) = true by decide +kernel)
set_option maxRecDepth 100000 in
theorem okX9_handler : ∀ q ∈ kX9_handler, zick (zmt 265).2.1 265 q = true := List.all_eq_true.mp (show kX9_handler.all (zick cX9_handler 265) = true by decide +kernel)
set_option maxRecDepth 100000 in
theorem okX9_price : ∀ q ∈ kX9_price, zick (zmt 266).2.1 266 q = true := List.all_eq_true.mp (show kX9_price.all (zick cX9_price 266) = true by decide +kernel)
set_option maxRecDepth 100000 in
theorem okX9_slice : ∀ q ∈ kX9_slice, zick (zmt 267).2.1 267 q = true := List.all_eq_true.mp (show kX9_slice.all (zick cX9_slice 267) = true by decide +kernel)
set_option maxRecDepth 100000 in
theorem okX9_again : ∀ q ∈ kX9_again, zick (zmt 268).2.1 268 q = true := List.all_eq_true.mp (show kX9_again.all (zick cX9_again 268) = true by decide +kernel)
set_option maxRecDepth 100000 in
theorem okX9_task : ∀ q ∈ kX9_task, zick (zmt 269).2.1 269 q = true := List.all_eq_true.mp (show kX9_task.all (zick cX9_task 269) = true by decide +kernel)
set_option maxRecDepth 100000 in
theorem okX9_result : ∀ q ∈ kX9_result, zick (zmt 270).2.1 270 q = true := List.all_eq_true.mp (show kX9_result.all (zick cX9_result 270) = true by decide +kernel)
set_option maxRecDepth 100000 in
theorem okX9_window : ∀ q ∈ kX9_window, zick (zmt 271).2.1 271 q = true := List.all_eq_true.mp (show kX9_window.all (zick cX9_window 271) = true by decide +kernel)
set_option maxRecDepth 100000 in
theorem okX9_register : ∀ q ∈ kX9_register, zick (zmt 272).2.1 272 q = true := List.all_eq_true.mp (show kX9_register.all (zick cX9_register 272) = true by decide +kernel)
set_option maxRecDepth 100000 in
theorem okX9_isFrame : ∀ q ∈ kX9_isFrame, zick (zmt 273).2.1 273 q = true := List.all_eq_true.mp (show kX9_isFrame.all (zick cX9_isFrame 273) = true by decide +kernel)
set_option maxRecDepth 100000 in
theorem okX9_value : ∀ q ∈ kX9_value, zick (zmt 274).2.1 274 q = true := List.all_eq_true.mp (show kX9_value.all (zick cX9_value 274) = true by decide +kernel)
set_option maxRecDepth 100000 in
theorem okX9_where : ∀ q ∈ kX9_where, zick (zmt 275).2.1 275 q = true := List.all_eq_true.mp (show kX9_where.all (zick cX9_where 275) = true by decide +kernel)
set_option maxRecDepth 100000 in
theorem okX9_trap : ∀ q ∈ kX9_trap, zick (zmt 276).2.1 276 q = true := List.all_eq_true.mp (show kX9_trap.all (zick cX9_trap 276) = true by decide +kernel)
set_option maxRecDepth 100000 in
theorem okX9_law : ∀ q ∈ kX9_law, zick (zmt 277).2.1 277 q = true := List.all_eq_true.mp (show kX9_law.all (zick cX9_law 277) = true by decide +kernel)
set_option maxRecDepth 100000 in
theorem okX9_putAside : ∀ q ∈ kX9_putAside, zick (zmt 278).2.1 278 q = true := List.all_eq_true.mp (show kX9_putAside.all (zick cX9_putAside 278) = true by decide +kernel)
set_option maxRecDepth 100000 in
theorem okX9_bringBack : ∀ q ∈ kX9_bringBack, zick (zmt 279).2.1 279 q = true := List.all_eq_true.mp (show kX9_bringBack.all (zick cX9_bringBack 279) = true by decide +kernel)
set_option maxRecDepth 100000 in
theorem okX9_camesBy : ∀ q ∈ kX9_camesBy, zick (zmt 280).2.1 280 q = true := List.all_eq_true.mp (show kX9_camesBy.all (zick cX9_camesBy 280) = true by decide +kernel)
set_option maxRecDepth 100000 in
theorem okX9_would : ∀ q ∈ kX9_would, zick (zmt 281).2.1 281 q = true := List.all_eq_true.mp (show kX9_would.all (zick cX9_would 281) = true by decide +kernel)
set_option maxRecDepth 100000 in
theorem okX9_triedWay : ∀ q ∈ kX9_triedWay, zick (zmt 282).2.1 282 q = true := List.all_eq_true.mp (show kX9_triedWay.all (zick cX9_triedWay 282) = true by decide +kernel)
set_option maxRecDepth 100000 in
theorem okX9_triedN : ∀ q ∈ kX9_triedN, zick (zmt 283).2.1 283 q = true := List.all_eq_true.mp (show kX9_triedN.all (zick cX9_triedN 283) = true by decide +kernel)
set_option maxRecDepth 100000 in
theorem okX9_best : ∀ q ∈ kX9_best, zick (zmt 284).2.1 284 q = true := List.all_eq_true.mp (show kX9_best.all (zick cX9_best 284) = true by decide +kernel)
set_option maxRecDepth 100000 in
theorem okX9_sliced : ∀ q ∈ kX9_sliced, zick (zmt 285).2.1 285 q = true := List.all_eq_true.mp (show kX9_sliced.all (zick cX9_sliced 285) = true by decide +kernel)
set_option maxRecDepth 100000 in
theorem okX9_bestSlice : ∀ q ∈ kX9_bestSlice, zick (zmt 286).2.1 286 q = true := List.all_eq_true.mp (show kX9_bestSlice.all (zick cX9_bestSlice 286) = true by decide +kernel)
