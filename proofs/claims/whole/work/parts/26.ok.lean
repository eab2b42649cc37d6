/-! the instructions, held against the bytes: printed by wip/whole/code.py -/
set_option maxRecDepth 100000 in
theorem okX6_next : ∀ q ∈ kX6_next, zick (zmt 92).2.1 92 q = true := List.all_eq_true.mp (show kX6_next.all (zick cX6_next 92) = true by decide +kernel)
set_option maxRecDepth 100000 in
theorem okX6_sameWords : ∀ q ∈ kX6_sameWords, zick (zmt 93).2.1 93 q = true := List.all_eq_true.mp (show kX6_sameWords.all (zick cX6_sameWords 93) = true by decide +kernel)
set_option maxRecDepth 100000 in
theorem okX6_skipWord : ∀ q ∈ kX6_skipWord, zick (zmt 94).2.1 94 q = true := List.all_eq_true.mp (show kX6_skipWord.all (zick cX6_skipWord 94) = true by decide +kernel)
set_option maxRecDepth 100000 in
theorem okX6_readNumber : ∀ q ∈ kX6_readNumber, zick (zmt 95).2.1 95 q = true := List.all_eq_true.mp (show kX6_readNumber.all (zick cX6_readNumber 95) = true by decide +kernel)
set_option maxRecDepth 100000 in
theorem okX6_wordKind : ∀ q ∈ kX6_wordKind, zick (zmt 96).2.1 96 q = true := List.all_eq_true.mp (show kX6_wordKind.all (zick cX6_wordKind 96) = true by decide +kernel)
set_option maxRecDepth 100000 in
theorem okX6_isWord : ∀ q ∈ kX6_isWord, zick (zmt 97).2.1 97 q = true := List.all_eq_true.mp (show kX6_isWord.all (zick cX6_isWord 97) = true by decide +kernel)
set_option maxRecDepth 100000 in
theorem okX6_isBlank : ∀ q ∈ kX6_isBlank, zick (zmt 98).2.1 98 q = true := List.all_eq_true.mp (show kX6_isBlank.all (zick cX6_isBlank 98) = true by decide +kernel)
set_option maxRecDepth 100000 in
theorem okX6_isLetter : ∀ q ∈ kX6_isLetter, zick (zmt 99).2.1 99 q = true := List.all_eq_true.mp (show kX6_isLetter.all (zick cX6_isLetter 99) = true by decide +kernel)
set_option maxRecDepth 100000 in
theorem okX6_isDigit : ∀ q ∈ kX6_isDigit, zick (zmt 100).2.1 100 q = true := List.all_eq_true.mp (show kX6_isDigit.all (zick cX6_isDigit 100) = true by decide +kernel)
set_option maxRecDepth 100000 in
theorem okX6_isSign : ∀ q ∈ kX6_isSign, zick (zmt 101).2.1 101 q = true := List.all_eq_true.mp (show kX6_isSign.all (zick cX6_isSign 101) = true by decide +kernel)
set_option maxRecDepth 100000 in
theorem okX7_init : ∀ q ∈ kX7_init, zick (zmt 102).2.1 102 q = true := List.all_eq_true.mp (show kX7_init.all (zick cX7_init 102) = true by decide +kernel)
set_option maxRecDepth 100000 in
theorem okX7_followWhole : ∀ q ∈ kX7_followWhole, zick (zmt 103).2.1 103 q = true := List.all_eq_true.mp (show kX7_followWhole.all (zick cX7_followWhole 103) = true by decide +kernel)
set_option maxRecDepth 100000 in
theorem okX7_followTask : ∀ q ∈ kX7_followTask, zick (zmt 104).2.1 104 q = true := List.all_eq_true.mp (show kX7_followTask.all (zick cX7_followTask 104) = true by decide +kernel)
set_option maxRecDepth 100000 in
theorem okX7_followOn : ∀ q ∈ kX7_followOn, zick (zmt 105).2.1 105 q = true := List.all_eq_true.mp (show kX7_followOn.all (zick cX7_followOn 105) = true by decide +kernel)
set_option maxRecDepth 100000 in
theorem okX7_follow : ∀ q ∈ kX7_follow, zick (zmt 106).2.1 106 q = true := List.all_eq_true.mp (show kX7_follow.all (zick cX7_follow 106) = true by decide +kernel)
set_option maxRecDepth 100000 in
theorem okX7_timesAt : ∀ q ∈ kX7_timesAt, zick (zmt 107).2.1 107 q = true := List.all_eq_true.mp (show kX7_timesAt.all (zick cX7_timesAt 107) = true by decide +kernel)
set_option maxRecDepth 100000 in
theorem okX8_init : ∀ q ∈ kX8_init, zick (zmt 108).2.1 108 q = true := List.all_eq_true.mp (show kX8_init.all (zick cX8_init 108) = true by decide +kernel)
set_option maxRecDepth 100000 in
theorem okX8_feed : ∀ q ∈ kX8_feed, zick (zmt 109).2.1 109 q = true := List.all_eq_true.mp (show kX8_feed.all (zick cX8_feed 109) = true by decide +kernel)
set_option maxRecDepth 100000 in
theorem okX8_end : ∀ q ∈ kX8_end, zick (zmt 110).2.1 110 q = true := List.all_eq_true.mp (show kX8_end.all (zick cX8_end 110) = true by decide +kernel)
