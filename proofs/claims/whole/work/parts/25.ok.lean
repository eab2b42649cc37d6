/-! the instructions, held against the bytes: printed by wip/whole/code.py -/
set_option maxRecDepth 100000 in
theorem okX4_comeBack : ∀ q ∈ kX4_comeBack, zick (zmt 72).2.1 72 q = true := List.all_eq_true.mp (show kX4_comeBack.all (zick cX4_comeBack 72) = true by decide +kernel)
set_option maxRecDepth 100000 in
theorem okX4_enterFrame : ∀ q ∈ kX4_enterFrame, zick (zmt 73).2.1 73 q = true := List.all_eq_true.mp (show kX4_enterFrame.all (zick cX4_enterFrame 73) = true by decide +kernel)
set_option maxRecDepth 100000 in
theorem okX4_leaveFrame : ∀ q ∈ kX4_leaveFrame, zick (zmt 74).2.1 74 q = true := List.all_eq_true.mp (show kX4_leaveFrame.all (zick cX4_leaveFrame 74) = true by decide +kernel)
set_option maxRecDepth 100000 in
theorem okX4_fail : ∀ q ∈ kX4_fail, zick (zmt 75).2.1 75 q = true := List.all_eq_true.mp (show kX4_fail.all (zick cX4_fail 75) = true by decide +kernel)
set_option maxRecDepth 100000 in
theorem okX4_makeRoom : ∀ q ∈ kX4_makeRoom, zick (zmt 76).2.1 76 q = true := List.all_eq_true.mp (show kX4_makeRoom.all (zick cX4_makeRoom 76) = true by decide +kernel)
set_option maxRecDepth 100000 in
theorem okX4_fill : ∀ q ∈ kX4_fill, zick (zmt 77).2.1 77 q = true := List.all_eq_true.mp (show kX4_fill.all (zick cX4_fill 77) = true by decide +kernel)
set_option maxRecDepth 100000 in
theorem okX4_moveIn : ∀ q ∈ kX4_moveIn, zick (zmt 78).2.1 78 q = true := List.all_eq_true.mp (show kX4_moveIn.all (zick cX4_moveIn 78) = true by decide +kernel)
set_option maxRecDepth 100000 in
theorem okX4_moveOut : ∀ q ∈ kX4_moveOut, zick (zmt 79).2.1 79 q = true := List.all_eq_true.mp (show kX4_moveOut.all (zick cX4_moveOut 79) = true by decide +kernel)
set_option maxRecDepth 100000 in
theorem okX4_noteTrap : ∀ q ∈ kX4_noteTrap, zick (zmt 80).2.1 80 q = true := List.all_eq_true.mp (show kX4_noteTrap.all (zick cX4_noteTrap 80) = true by decide +kernel)
set_option maxRecDepth 100000 in
theorem okX4_behind : ∀ q ∈ kX4_behind, zick (zmt 81).2.1 81 q = true := List.all_eq_true.mp (show kX4_behind.all (zick cX4_behind 81) = true by decide +kernel)
set_option maxRecDepth 100000 in
theorem okX4_ahead : ∀ q ∈ kX4_ahead, zick (zmt 82).2.1 82 q = true := List.all_eq_true.mp (show kX4_ahead.all (zick cX4_ahead 82) = true by decide +kernel)
set_option maxRecDepth 100000 in
theorem okX5_init : ∀ q ∈ kX5_init, zick (zmt 83).2.1 83 q = true := List.all_eq_true.mp (show kX5_init.all (zick cX5_init 83) = true by decide +kernel)
set_option maxRecDepth 100000 in
theorem okX5_clear : ∀ q ∈ kX5_clear, zick (zmt 84).2.1 84 q = true := List.all_eq_true.mp (show kX5_clear.all (zick cX5_clear 84) = true by decide +kernel)
set_option maxRecDepth 100000 in
theorem okX5_forgetGuesses : ∀ q ∈ kX5_forgetGuesses, zick (zmt 85).2.1 85 q = true := List.all_eq_true.mp (show kX5_forgetGuesses.all (zick cX5_forgetGuesses 85) = true by decide +kernel)
set_option maxRecDepth 100000 in
theorem okX5_copyFrom : ∀ q ∈ kX5_copyFrom, zick (zmt 86).2.1 86 q = true := List.all_eq_true.mp (show kX5_copyFrom.all (zick cX5_copyFrom 86) = true by decide +kernel)
set_option maxRecDepth 100000 in
theorem okX5_fact : ∀ q ∈ kX5_fact, zick (zmt 87).2.1 87 q = true := List.all_eq_true.mp (show kX5_fact.all (zick cX5_fact 87) = true by decide +kernel)
set_option maxRecDepth 100000 in
theorem okX5_guessToSpill : ∀ q ∈ kX5_guessToSpill, zick (zmt 88).2.1 88 q = true := List.all_eq_true.mp (show kX5_guessToSpill.all (zick cX5_guessToSpill 88) = true by decide +kernel)
set_option maxRecDepth 100000 in
theorem okX5_guessToFill : ∀ q ∈ kX5_guessToFill, zick (zmt 89).2.1 89 q = true := List.all_eq_true.mp (show kX5_guessToFill.all (zick cX5_guessToFill 89) = true by decide +kernel)
set_option maxRecDepth 100000 in
theorem okX6_init : ∀ q ∈ kX6_init, zick (zmt 90).2.1 90 q = true := List.all_eq_true.mp (show kX6_init.all (zick cX6_init 90) = true by decide +kernel)
set_option maxRecDepth 100000 in
theorem okX6_open : ∀ q ∈ kX6_open, zick (zmt 91).2.1 91 q = true := List.all_eq_true.mp (show kX6_open.all (zick cX6_open 91) = true by decide +kernel)
