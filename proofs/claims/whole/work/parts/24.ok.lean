/-! the instructions, held against the bytes: printed by wip/whole/code.py -/
set_option maxRecDepth 100000 in
theorem okX4_startAnew : ∀ q ∈ kX4_startAnew, zick (zmt 51).2.1 51 q = true := List.all_eq_true.mp (show kX4_startAnew.all (zick cX4_startAnew 51) = true by decide +kernel)
set_option maxRecDepth 100000 in
theorem okX4_copyFrom : ∀ q ∈ kX4_copyFrom, zick (zmt 52).2.1 52 q = true := List.all_eq_true.mp (show kX4_copyFrom.all (zick cX4_copyFrom 52) = true by decide +kernel)
set_option maxRecDepth 100000 in
theorem okX4_taskAt : ∀ q ∈ kX4_taskAt, zick (zmt 53).2.1 53 q = true := List.all_eq_true.mp (show kX4_taskAt.all (zick cX4_taskAt 53) = true by decide +kernel)
set_option maxRecDepth 100000 in
theorem okX4_isOver : ∀ q ∈ kX4_isOver, zick (zmt 54).2.1 54 q = true := List.all_eq_true.mp (show kX4_isOver.all (zick cX4_isOver 54) = true by decide +kernel)
set_option maxRecDepth 100000 in
theorem okX4_cost : ∀ q ∈ kX4_cost, zick (zmt 55).2.1 55 q = true := List.all_eq_true.mp (show kX4_cost.all (zick cX4_cost 55) = true by decide +kernel)
set_option maxRecDepth 100000 in
theorem okX4_fact : ∀ q ∈ kX4_fact, zick (zmt 56).2.1 56 q = true := List.all_eq_true.mp (show kX4_fact.all (zick cX4_fact 56) = true by decide +kernel)
set_option maxRecDepth 100000 in
theorem okX4_changeHandler : ∀ q ∈ kX4_changeHandler, zick (zmt 57).2.1 57 q = true := List.all_eq_true.mp (show kX4_changeHandler.all (zick cX4_changeHandler 57) = true by decide +kernel)
set_option maxRecDepth 100000 in
theorem okX4_restart : ∀ q ∈ kX4_restart, zick (zmt 58).2.1 58 q = true := List.all_eq_true.mp (show kX4_restart.all (zick cX4_restart 58) = true by decide +kernel)
set_option maxRecDepth 100000 in
theorem okX4_foresee : ∀ q ∈ kX4_foresee, zick (zmt 59).2.1 59 q = true := List.all_eq_true.mp (show kX4_foresee.all (zick cX4_foresee 59) = true by decide +kernel)
set_option maxRecDepth 100000 in
theorem okX4_leaveAlone : ∀ q ∈ kX4_leaveAlone, zick (zmt 60).2.1 60 q = true := List.all_eq_true.mp (show kX4_leaveAlone.all (zick cX4_leaveAlone 60) = true by decide +kernel)
set_option maxRecDepth 100000 in
theorem okX4_windowOf : ∀ q ∈ kX4_windowOf, zick (zmt 61).2.1 61 q = true := List.all_eq_true.mp (show kX4_windowOf.all (zick cX4_windowOf 61) = true by decide +kernel)
set_option maxRecDepth 100000 in
theorem okX4_windowsAstray : ∀ q ∈ kX4_windowsAstray, zick (zmt 62).2.1 62 q = true := List.all_eq_true.mp (show kX4_windowsAstray.all (zick cX4_windowsAstray 62) = true by decide +kernel)
set_option maxRecDepth 100000 in
theorem okX4_playOn : ∀ q ∈ kX4_playOn, zick (zmt 63).2.1 63 q = true := List.all_eq_true.mp (show kX4_playOn.all (zick cX4_playOn 63) = true by decide +kernel)
set_option maxRecDepth 100000 in
theorem okX4_playBelow : ∀ q ∈ kX4_playBelow, zick (zmt 64).2.1 64 q = true := List.all_eq_true.mp (show kX4_playBelow.all (zick cX4_playBelow 64) = true by decide +kernel)
set_option maxRecDepth 100000 in
theorem okX4_tasksLeft : ∀ q ∈ kX4_tasksLeft, zick (zmt 65).2.1 65 q = true := List.all_eq_true.mp (show kX4_tasksLeft.all (zick cX4_tasksLeft 65) = true by decide +kernel)
set_option maxRecDepth 100000 in
theorem okX4_freeWindows : ∀ q ∈ kX4_freeWindows, zick (zmt 66).2.1 66 q = true := List.all_eq_true.mp (show kX4_freeWindows.all (zick cX4_freeWindows 66) = true by decide +kernel)
set_option maxRecDepth 100000 in
theorem okX4_takeEvent : ∀ q ∈ kX4_takeEvent, zick (zmt 67).2.1 67 q = true := List.all_eq_true.mp (show kX4_takeEvent.all (zick cX4_takeEvent 67) = true by decide +kernel)
set_option maxRecDepth 100000 in
theorem okX4_passTurn : ∀ q ∈ kX4_passTurn, zick (zmt 68).2.1 68 q = true := List.all_eq_true.mp (show kX4_passTurn.all (zick cX4_passTurn 68) = true by decide +kernel)
set_option maxRecDepth 100000 in
theorem okX4_nextTurn : ∀ q ∈ kX4_nextTurn, zick (zmt 69).2.1 69 q = true := List.all_eq_true.mp (show kX4_nextTurn.all (zick cX4_nextTurn 69) = true by decide +kernel)
set_option maxRecDepth 100000 in
theorem okX4_beginTask : ∀ q ∈ kX4_beginTask, zick (zmt 70).2.1 70 q = true := List.all_eq_true.mp (show kX4_beginTask.all (zick cX4_beginTask 70) = true by decide +kernel)
set_option maxRecDepth 100000 in
theorem okX4_goOn : ∀ q ∈ kX4_goOn, zick (zmt 71).2.1 71 q = true := List.all_eq_true.mp (show kX4_goOn.all (zick cX4_goOn 71) = true by decide +kernel)
