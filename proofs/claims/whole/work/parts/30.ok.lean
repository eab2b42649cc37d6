/-! the instructions, held against the bytes: printed by wip/whole/code.py -/
set_option maxRecDepth 100000 in
theorem okX9_scan : ∀ q ∈ kX9_scan, zick (zmt 163).2.1 163 q = true := List.all_eq_true.mp (show kX9_scan.all (zick cX9_scan 163) = true by decide +kernel)
set_option maxRecDepth 100000 in
theorem okX9_scanWord : ∀ q ∈ kX9_scanWord, zick (zmt 164).2.1 164 q = true := List.all_eq_true.mp (show kX9_scanWord.all (zick cX9_scanWord 164) = true by decide +kernel)
set_option maxRecDepth 100000 in
theorem okX9_isSame : ∀ q ∈ kX9_isSame, zick (zmt 165).2.1 165 q = true := List.all_eq_true.mp (show kX9_isSame.all (zick cX9_isSame 165) = true by decide +kernel)
set_option maxRecDepth 100000 in
theorem okX9_scanNumber : ∀ q ∈ kX9_scanNumber, zick (zmt 166).2.1 166 q = true := List.all_eq_true.mp (show kX9_scanNumber.all (zick cX9_scanNumber 166) = true by decide +kernel)
set_option maxRecDepth 100000 in
theorem okX9_fail : ∀ q ∈ kX9_fail, zick (zmt 167).2.1 167 q = true := List.all_eq_true.mp (show kX9_fail.all (zick cX9_fail 167) = true by decide +kernel)
set_option maxRecDepth 100000 in
theorem okX9_isAt : ∀ q ∈ kX9_isAt, zick (zmt 168).2.1 168 q = true := List.all_eq_true.mp (show kX9_isAt.all (zick cX9_isAt 168) = true by decide +kernel)
set_option maxRecDepth 100000 in
theorem okX9_isWord : ∀ q ∈ kX9_isWord, zick (zmt 169).2.1 169 q = true := List.all_eq_true.mp (show kX9_isWord.all (zick cX9_isWord 169) = true by decide +kernel)
set_option maxRecDepth 100000 in
theorem okX9_isName : ∀ q ∈ kX9_isName, zick (zmt 170).2.1 170 q = true := List.all_eq_true.mp (show kX9_isName.all (zick cX9_isName 170) = true by decide +kernel)
set_option maxRecDepth 100000 in
theorem okX9_need : ∀ q ∈ kX9_need, zick (zmt 171).2.1 171 q = true := List.all_eq_true.mp (show kX9_need.all (zick cX9_need 171) = true by decide +kernel)
set_option maxRecDepth 100000 in
theorem okX9_numeral : ∀ q ∈ kX9_numeral, zick (zmt 172).2.1 172 q = true := List.all_eq_true.mp (show kX9_numeral.all (zick cX9_numeral 172) = true by decide +kernel)
set_option maxRecDepth 100000 in
theorem okX9_isNamed : ∀ q ∈ kX9_isNamed, zick (zmt 173).2.1 173 q = true := List.all_eq_true.mp (show kX9_isNamed.all (zick cX9_isNamed 173) = true by decide +kernel)
set_option maxRecDepth 100000 in
theorem okX9_functionHere : ∀ q ∈ kX9_functionHere, zick (zmt 174).2.1 174 q = true := List.all_eq_true.mp (show kX9_functionHere.all (zick cX9_functionHere 174) = true by decide +kernel)
set_option maxRecDepth 100000 in
theorem okX9_parameterHere : ∀ q ∈ kX9_parameterHere, zick (zmt 175).2.1 175 q = true := List.all_eq_true.mp (show kX9_parameterHere.all (zick cX9_parameterHere 175) = true by decide +kernel)
set_option maxRecDepth 100000 in
theorem okX9_keepName : ∀ q ∈ kX9_keepName, zick (zmt 176).2.1 176 q = true := List.all_eq_true.mp (show kX9_keepName.all (zick cX9_keepName 176) = true by decide +kernel)
set_option maxRecDepth 100000 in
theorem okX9_isOnce : ∀ q ∈ kX9_isOnce, zick (zmt 177).2.1 177 q = true := List.all_eq_true.mp (show kX9_isOnce.all (zick cX9_isOnce 177) = true by decide +kernel)
set_option maxRecDepth 100000 in
theorem okX9_readAll : ∀ q ∈ kX9_readAll, zick (zmt 178).2.1 178 q = true := List.all_eq_true.mp (show kX9_readAll.all (zick cX9_readAll 178) = true by decide +kernel)
set_option maxRecDepth 100000 in
theorem okX9_readLine : ∀ q ∈ kX9_readLine, zick (zmt 179).2.1 179 q = true := List.all_eq_true.mp (show kX9_readLine.all (zick cX9_readLine 179) = true by decide +kernel)
set_option maxRecDepth 100000 in
theorem okX9_readWay : ∀ q ∈ kX9_readWay, zick (zmt 180).2.1 180 q = true := List.all_eq_true.mp (show kX9_readWay.all (zick cX9_readWay 180) = true by decide +kernel)
