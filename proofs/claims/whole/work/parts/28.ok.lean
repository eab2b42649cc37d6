/-! the instructions, held against the bytes: printed by wip/whole/code.py -/
set_option maxRecDepth 100000 in
theorem okX8_best : ∀ q ∈ kX8_best, zick (zmt 133).2.1 133 q = true := List.all_eq_true.mp (show kX8_best.all (zick cX8_best 133) = true by decide +kernel)
set_option maxRecDepth 100000 in
theorem okX8_bestSlice : ∀ q ∈ kX8_bestSlice, zick (zmt 134).2.1 134 q = true := List.all_eq_true.mp (show kX8_bestSlice.all (zick cX8_bestSlice 134) = true by decide +kernel)
set_option maxRecDepth 100000 in
theorem okX8_trap : ∀ q ∈ kX8_trap, zick (zmt 135).2.1 135 q = true := List.all_eq_true.mp (show kX8_trap.all (zick cX8_trap 135) = true by decide +kernel)
set_option maxRecDepth 100000 in
theorem okX8_law : ∀ q ∈ kX8_law, zick (zmt 136).2.1 136 q = true := List.all_eq_true.mp (show kX8_law.all (zick cX8_law 136) = true by decide +kernel)
set_option maxRecDepth 100000 in
theorem okX8_image : ∀ q ∈ kX8_image, zick (zmt 137).2.1 137 q = true := List.all_eq_true.mp (show kX8_image.all (zick cX8_image 137) = true by decide +kernel)
set_option maxRecDepth 100000 in
theorem okX8_back : ∀ q ∈ kX8_back, zick (zmt 138).2.1 138 q = true := List.all_eq_true.mp (show kX8_back.all (zick cX8_back 138) = true by decide +kernel)
set_option maxRecDepth 100000 in
theorem okX8_about : ∀ q ∈ kX8_about, zick (zmt 139).2.1 139 q = true := List.all_eq_true.mp (show kX8_about.all (zick cX8_about 139) = true by decide +kernel)
set_option maxRecDepth 100000 in
theorem okX8_at : ∀ q ∈ kX8_at, zick (zmt 140).2.1 140 q = true := List.all_eq_true.mp (show kX8_at.all (zick cX8_at 140) = true by decide +kernel)
set_option maxRecDepth 100000 in
theorem okX8_put : ∀ q ∈ kX8_put, zick (zmt 141).2.1 141 q = true := List.all_eq_true.mp (show kX8_put.all (zick cX8_put 141) = true by decide +kernel)
set_option maxRecDepth 100000 in
theorem okX8_handlerCanBe : ∀ q ∈ kX8_handlerCanBe, zick (zmt 142).2.1 142 q = true := List.all_eq_true.mp (show kX8_handlerCanBe.all (zick cX8_handlerCanBe 142) = true by decide +kernel)
set_option maxRecDepth 100000 in
theorem okX8_feedFour : ∀ q ∈ kX8_feedFour, zick (zmt 143).2.1 143 q = true := List.all_eq_true.mp (show kX8_feedFour.all (zick cX8_feedFour 143) = true by decide +kernel)
set_option maxRecDepth 100000 in
theorem okX8_isTask : ∀ q ∈ kX8_isTask, zick (zmt 144).2.1 144 q = true := List.all_eq_true.mp (show kX8_isTask.all (zick cX8_isTask 144) = true by decide +kernel)
set_option maxRecDepth 100000 in
theorem okX8_followPlainly : ∀ q ∈ kX8_followPlainly, zick (zmt 145).2.1 145 q = true := List.all_eq_true.mp (show kX8_followPlainly.all (zick cX8_followPlainly 145) = true by decide +kernel)
set_option maxRecDepth 100000 in
theorem okX8_followTask : ∀ q ∈ kX8_followTask, zick (zmt 146).2.1 146 q = true := List.all_eq_true.mp (show kX8_followTask.all (zick cX8_followTask 146) = true by decide +kernel)
set_option maxRecDepth 100000 in
theorem okX8_lookAhead : ∀ q ∈ kX8_lookAhead, zick (zmt 147).2.1 147 q = true := List.all_eq_true.mp (show kX8_lookAhead.all (zick cX8_lookAhead 147) = true by decide +kernel)
set_option maxRecDepth 100000 in
theorem okX8_leastOfCall : ∀ q ∈ kX8_leastOfCall, zick (zmt 148).2.1 148 q = true := List.all_eq_true.mp (show kX8_leastOfCall.all (zick cX8_leastOfCall 148) = true by decide +kernel)
set_option maxRecDepth 100000 in
theorem okX8_leastOfReturn : ∀ q ∈ kX8_leastOfReturn, zick (zmt 149).2.1 149 q = true := List.all_eq_true.mp (show kX8_leastOfReturn.all (zick cX8_leastOfReturn 149) = true by decide +kernel)
set_option maxRecDepth 100000 in
theorem okX8_trapCost : ∀ q ∈ kX8_trapCost, zick (zmt 150).2.1 150 q = true := List.all_eq_true.mp (show kX8_trapCost.all (zick cX8_trapCost 150) = true by decide +kernel)
