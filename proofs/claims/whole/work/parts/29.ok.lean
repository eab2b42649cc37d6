/-! the instructions, held against the bytes: printed by wip/whole/code.py -/
set_option maxRecDepth 100000 in
theorem okX9_init : ∀ q ∈ kX9_init, zick (zmt 151).2.1 151 q = true := List.all_eq_true.mp (show kX9_init.all (zick cX9_init 151) = true by decide +kernel)
set_option maxRecDepth 100000 in
theorem okX9_isIn : ∀ q ∈ kX9_isIn, zick (zmt 152).2.1 152 q = true := List.all_eq_true.mp (show kX9_isIn.all (zick cX9_isIn 152) = true by decide +kernel)
set_option maxRecDepth 100000 in
theorem okX9_less : ∀ q ∈ kX9_less, zick (zmt 153).2.1 153 q = true := List.all_eq_true.mp (show kX9_less.all (zick cX9_less 153) = true by decide +kernel)
set_option maxRecDepth 100000 in
theorem okX9_more : ∀ q ∈ kX9_more, zick (zmt 154).2.1 154 q = true := List.all_eq_true.mp (show kX9_more.all (zick cX9_more 154) = true by decide +kernel)
set_option maxRecDepth 100000 in
theorem okX9_clearBank : ∀ q ∈ kX9_clearBank, zick (zmt 155).2.1 155 q = true := List.all_eq_true.mp (show kX9_clearBank.all (zick cX9_clearBank 155) = true by decide +kernel)
set_option maxRecDepth 100000 in
theorem okX9_feed : ∀ q ∈ kX9_feed, zick (zmt 156).2.1 156 q = true := List.all_eq_true.mp (show kX9_feed.all (zick cX9_feed 156) = true by decide +kernel)
set_option maxRecDepth 100000 in
theorem okX9_end : ∀ q ∈ kX9_end, zick (zmt 157).2.1 157 q = true := List.all_eq_true.mp (show kX9_end.all (zick cX9_end 157) = true by decide +kernel)
set_option maxRecDepth 100000 in
theorem okX9_signAt : ∀ q ∈ kX9_signAt, zick (zmt 158).2.1 158 q = true := List.all_eq_true.mp (show kX9_signAt.all (zick cX9_signAt 158) = true by decide +kernel)
set_option maxRecDepth 100000 in
theorem okX9_isLetter : ∀ q ∈ kX9_isLetter, zick (zmt 159).2.1 159 q = true := List.all_eq_true.mp (show kX9_isLetter.all (zick cX9_isLetter 159) = true by decide +kernel)
set_option maxRecDepth 100000 in
theorem okX9_isDigit : ∀ q ∈ kX9_isDigit, zick (zmt 160).2.1 160 q = true := List.all_eq_true.mp (show kX9_isDigit.all (zick cX9_isDigit 160) = true by decide +kernel)
set_option maxRecDepth 100000 in
theorem okX9_isSign : ∀ q ∈ kX9_isSign, zick (zmt 161).2.1 161 q = true := List.all_eq_true.mp (show kX9_isSign.all (zick cX9_isSign 161) = true by decide +kernel)
set_option maxRecDepth 100000 in
theorem okX9_isBlank : ∀ q ∈ kX9_isBlank, zick (zmt 162).2.1 162 q = true := List.all_eq_true.mp (show kX9_isBlank.all (zick cX9_isBlank 162) = true by decide +kernel)
