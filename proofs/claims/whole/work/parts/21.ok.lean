/-! the instructions, held against the bytes: printed by wip/whole/code.py -/
set_option maxRecDepth 100000 in
theorem okX0_init : ∀ q ∈ kX0_init, zick (zmt 0).2.1 0 q = true := List.all_eq_true.mp (show kX0_init.all (zick cX0_init 0) = true by decide +kernel)
set_option maxRecDepth 100000 in
theorem okX0_clear : ∀ q ∈ kX0_clear, zick (zmt 1).2.1 1 q = true := List.all_eq_true.mp (show kX0_clear.all (zick cX0_clear 1) = true by decide +kernel)
set_option maxRecDepth 100000 in
theorem okX0_foresee : ∀ q ∈ kX0_foresee, zick (zmt 2).2.1 2 q = true := List.all_eq_true.mp (show kX0_foresee.all (zick cX0_foresee 2) = true by decide +kernel)
set_option maxRecDepth 100000 in
theorem okX0_copyFrom : ∀ q ∈ kX0_copyFrom, zick (zmt 3).2.1 3 q = true := List.all_eq_true.mp (show kX0_copyFrom.all (zick cX0_copyFrom 3) = true by decide +kernel)
set_option maxRecDepth 100000 in
theorem okX0_parameter : ∀ q ∈ kX0_parameter, zick (zmt 4).2.1 4 q = true := List.all_eq_true.mp (show kX0_parameter.all (zick cX0_parameter 4) = true by decide +kernel)
set_option maxRecDepth 100000 in
theorem okX0_begin : ∀ q ∈ kX0_begin, zick (zmt 5).2.1 5 q = true := List.all_eq_true.mp (show kX0_begin.all (zick cX0_begin 5) = true by decide +kernel)
set_option maxRecDepth 100000 in
theorem okX0_reach : ∀ q ∈ kX0_reach, zick (zmt 6).2.1 6 q = true := List.all_eq_true.mp (show kX0_reach.all (zick cX0_reach 6) = true by decide +kernel)
set_option maxRecDepth 100000 in
theorem okX0_called : ∀ q ∈ kX0_called, zick (zmt 7).2.1 7 q = true := List.all_eq_true.mp (show kX0_called.all (zick cX0_called 7) = true by decide +kernel)
set_option maxRecDepth 100000 in
theorem okX0_enter : ∀ q ∈ kX0_enter, zick (zmt 8).2.1 8 q = true := List.all_eq_true.mp (show kX0_enter.all (zick cX0_enter 8) = true by decide +kernel)
set_option maxRecDepth 100000 in
theorem okX0_leave : ∀ q ∈ kX0_leave, zick (zmt 9).2.1 9 q = true := List.all_eq_true.mp (show kX0_leave.all (zick cX0_leave 9) = true by decide +kernel)
set_option maxRecDepth 100000 in
theorem okX0_compute : ∀ q ∈ kX0_compute, zick (zmt 10).2.1 10 q = true := List.all_eq_true.mp (show kX0_compute.all (zick cX0_compute 10) = true by decide +kernel)
set_option maxRecDepth 100000 in
theorem okX0_computeOfTwo : ∀ q ∈ kX0_computeOfTwo, zick (zmt 11).2.1 11 q = true := List.all_eq_true.mp (show kX0_computeOfTwo.all (zick cX0_computeOfTwo 11) = true by decide +kernel)
set_option maxRecDepth 100000 in
theorem okX0_push : ∀ q ∈ kX0_push, zick (zmt 12).2.1 12 q = true := List.all_eq_true.mp (show kX0_push.all (zick cX0_push 12) = true by decide +kernel)
set_option maxRecDepth 100000 in
theorem okX0_pop : ∀ q ∈ kX0_pop, zick (zmt 13).2.1 13 q = true := List.all_eq_true.mp (show kX0_pop.all (zick cX0_pop 13) = true by decide +kernel)
set_option maxRecDepth 100000 in
theorem okX1_init : ∀ q ∈ kX1_init, zick (zmt 14).2.1 14 q = true := List.all_eq_true.mp (show kX1_init.all (zick cX1_init 14) = true by decide +kernel)
set_option maxRecDepth 100000 in
theorem okX1_startAnew : ∀ q ∈ kX1_startAnew, zick (zmt 15).2.1 15 q = true := List.all_eq_true.mp (show kX1_startAnew.all (zick cX1_startAnew 15) = true by decide +kernel)
set_option maxRecDepth 100000 in
theorem okX1_startFrom : ∀ q ∈ kX1_startFrom, zick (zmt 16).2.1 16 q = true := List.all_eq_true.mp (show kX1_startFrom.all (zick cX1_startFrom 16) = true by decide +kernel)
set_option maxRecDepth 100000 in
theorem okX1_now : ∀ q ∈ kX1_now, zick (zmt 17).2.1 17 q = true := List.all_eq_true.mp (show kX1_now.all (zick cX1_now 17) = true by decide +kernel)
set_option maxRecDepth 100000 in
theorem okX1_nextAct : ∀ q ∈ kX1_nextAct, zick (zmt 18).2.1 18 q = true := List.all_eq_true.mp (show kX1_nextAct.all (zick cX1_nextAct 18) = true by decide +kernel)
set_option maxRecDepth 100000 in
theorem okX1_stepBack : ∀ q ∈ kX1_stepBack, zick (zmt 19).2.1 19 q = true := List.all_eq_true.mp (show kX1_stepBack.all (zick cX1_stepBack 19) = true by decide +kernel)
set_option maxRecDepth 100000 in
theorem okX1_stepOn : ∀ q ∈ kX1_stepOn, zick (zmt 20).2.1 20 q = true := List.all_eq_true.mp (show kX1_stepOn.all (zick cX1_stepOn 20) = true by decide +kernel)
set_option maxRecDepth 100000 in
theorem okX1_dropOldest : ∀ q ∈ kX1_dropOldest, zick (zmt 21).2.1 21 q = true := List.all_eq_true.mp (show kX1_dropOldest.all (zick cX1_dropOldest 21) = true by decide +kernel)
set_option maxRecDepth 100000 in
theorem okX2_init : ∀ q ∈ kX2_init, zick (zmt 22).2.1 22 q = true := List.all_eq_true.mp (show kX2_init.all (zick cX2_init 22) = true by decide +kernel)
set_option maxRecDepth 100000 in
theorem okX2_clear : ∀ q ∈ kX2_clear, zick (zmt 23).2.1 23 q = true := List.all_eq_true.mp (show kX2_clear.all (zick cX2_clear 23) = true by decide +kernel)
