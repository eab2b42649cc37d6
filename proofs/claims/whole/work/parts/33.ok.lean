/-! the instructions, held against the bytes: printed by wip/whole/code.py -/
set_option maxRecDepth 100000 in
theorem okX9_store : ∀ q ∈ kX9_store, zick (zmt 204).2.1 204 q = true := List.all_eq_true.mp (show kX9_store.all (zick cX9_store 204) = true by decide +kernel)
set_option maxRecDepth 100000 in
theorem okX9_fault : ∀ q ∈ kX9_fault, zick (zmt 205).2.1 205 q = true := List.all_eq_true.mp (show kX9_fault.all (zick cX9_fault 205) = true by decide +kernel)
set_option maxRecDepth 100000 in
theorem okX9_many : ∀ q ∈ kX9_many, zick (zmt 206).2.1 206 q = true := List.all_eq_true.mp (show kX9_many.all (zick cX9_many 206) = true by decide +kernel)
set_option maxRecDepth 100000 in
theorem okX9_windowsNow : ∀ q ∈ kX9_windowsNow, zick (zmt 207).2.1 207 q = true := List.all_eq_true.mp (show kX9_windowsNow.all (zick cX9_windowsNow 207) = true by decide +kernel)
set_option maxRecDepth 100000 in
theorem okX9_isTask : ∀ q ∈ kX9_isTask, zick (zmt 208).2.1 208 q = true := List.all_eq_true.mp (show kX9_isTask.all (zick cX9_isTask 208) = true by decide +kernel)
set_option maxRecDepth 100000 in
theorem okX9_isWindow : ∀ q ∈ kX9_isWindow, zick (zmt 209).2.1 209 q = true := List.all_eq_true.mp (show kX9_isWindow.all (zick cX9_isWindow 209) = true by decide +kernel)
set_option maxRecDepth 100000 in
theorem okX9_isFunction : ∀ q ∈ kX9_isFunction, zick (zmt 210).2.1 210 q = true := List.all_eq_true.mp (show kX9_isFunction.all (zick cX9_isFunction 210) = true by decide +kernel)
set_option maxRecDepth 100000 in
theorem okX9_atTask : ∀ q ∈ kX9_atTask, zick (zmt 211).2.1 211 q = true := List.all_eq_true.mp (show kX9_atTask.all (zick cX9_atTask 211) = true by decide +kernel)
set_option maxRecDepth 100000 in
theorem okX9_state : ∀ q ∈ kX9_state, zick (zmt 212).2.1 212 q = true := List.all_eq_true.mp (show kX9_state.all (zick cX9_state 212) = true by decide +kernel)
set_option maxRecDepth 100000 in
theorem okX9_frames : ∀ q ∈ kX9_frames, zick (zmt 213).2.1 213 q = true := List.all_eq_true.mp (show kX9_frames.all (zick cX9_frames 213) = true by decide +kernel)
set_option maxRecDepth 100000 in
theorem okX9_resident : ∀ q ∈ kX9_resident, zick (zmt 214).2.1 214 q = true := List.all_eq_true.mp (show kX9_resident.all (zick cX9_resident 214) = true by decide +kernel)
set_option maxRecDepth 100000 in
theorem okX9_atFrame : ∀ q ∈ kX9_atFrame, zick (zmt 215).2.1 215 q = true := List.all_eq_true.mp (show kX9_atFrame.all (zick cX9_atFrame 215) = true by decide +kernel)
set_option maxRecDepth 100000 in
theorem okX9_atStack : ∀ q ∈ kX9_atStack, zick (zmt 216).2.1 216 q = true := List.all_eq_true.mp (show kX9_atStack.all (zick cX9_atStack 216) = true by decide +kernel)
set_option maxRecDepth 100000 in
theorem okX9_atLies : ∀ q ∈ kX9_atLies, zick (zmt 217).2.1 217 q = true := List.all_eq_true.mp (show kX9_atLies.all (zick cX9_atLies 217) = true by decide +kernel)
set_option maxRecDepth 100000 in
theorem okX9_clearTask : ∀ q ∈ kX9_clearTask, zick (zmt 218).2.1 218 q = true := List.all_eq_true.mp (show kX9_clearTask.all (zick cX9_clearTask 218) = true by decide +kernel)
set_option maxRecDepth 100000 in
theorem okX9_clearRing : ∀ q ∈ kX9_clearRing, zick (zmt 219).2.1 219 q = true := List.all_eq_true.mp (show kX9_clearRing.all (zick cX9_clearRing 219) = true by decide +kernel)
set_option maxRecDepth 100000 in
theorem okX9_startAnew : ∀ q ∈ kX9_startAnew, zick (zmt 220).2.1 220 q = true := List.all_eq_true.mp (show kX9_startAnew.all (zick cX9_startAnew 220) = true by decide +kernel)
set_option maxRecDepth 100000 in
theorem okX9_put : ∀ q ∈ kX9_put, zick (zmt 221).2.1 221 q = true := List.all_eq_true.mp (show kX9_put.all (zick cX9_put 221) = true by decide +kernel)
set_option maxRecDepth 100000 in
theorem okX9_take : ∀ q ∈ kX9_take, zick (zmt 222).2.1 222 q = true := List.all_eq_true.mp (show kX9_take.all (zick cX9_take 222) = true by decide +kernel)
set_option maxRecDepth 100000 in
theorem okX9_made : ∀ q ∈ kX9_made, zick (zmt 223).2.1 223 q = true := List.all_eq_true.mp (show kX9_made.all (zick cX9_made 223) = true by decide +kernel)
set_option maxRecDepth 100000 in
theorem okX9_holds : ∀ q ∈ kX9_holds, zick (zmt 224).2.1 224 q = true := List.all_eq_true.mp (show kX9_holds.all (zick cX9_holds 224) = true by decide +kernel)
set_option maxRecDepth 100000 in
theorem okX9_enter : ∀ q ∈ kX9_enter, zick (zmt 225).2.1 225 q = true := List.all_eq_true.mp (show kX9_enter.all (zick cX9_enter 225) = true by decide +kernel)
set_option maxRecDepth 100000 in
theorem okX9_goOn : ∀ q ∈ kX9_goOn, zick (zmt 226).2.1 226 q = true := List.all_eq_true.mp (show kX9_goOn.all (zick cX9_goOn 226) = true by decide +kernel)
set_option maxRecDepth 100000 in
theorem okX9_doStep : ∀ q ∈ kX9_doStep, zick (zmt 227).2.1 227 q = true := List.all_eq_true.mp (show kX9_doStep.all (zick cX9_doStep 227) = true by decide +kernel)
