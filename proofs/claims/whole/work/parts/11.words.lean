/-! words of the library, of arrays and of new objects -/
def zjw : List Cond := [.static Lib.Math.min.name, .initialized "java/lang/Math", .code Lib.Math.min.name Lib.Math.min.code 2 (some .int), .static Lib.Math.max.name, .code Lib.Math.max.name Lib.Math.max.code 2 (some .int), .native arraycopyName, .static arraycopyName, .initialized "java/lang/System", .instanceMethod objectInit, .code objectInit ⟨#[0xb1]⟩ 1 none, .arrayClass .int, .arrayClass .byte, .arrayClass .boolean]
set_option maxRecDepth 100000 in
theorem zjw_pl : zjw = ([679, 167, 680, 794, 795, 963, 962, 173, 180, 181, 217, 939, 574] : List Nat).filterMap (fun i => lw_tbl[i]?) := rfl
theorem zjw_gd : zjw.all goodWord = true := by decide +kernel
theorem zjw_in : ∀ w ∈ zjw, w ∈ ztb := by
  intro w hw
  have hg := List.all_eq_true.mp zjw_gd w hw
  rw [zjw_pl] at hw
  obtain ⟨i, -, hi⟩ := List.mem_filterMap.mp hw
  exact ztb_in hi hg
def zow : List Cond := [.instantiable RX0 9, .instantiable RX1 3, .instantiable RX2 16, .instantiable RX3 12, .instantiable RX4 17, .instantiable RX5 12, .instantiable RX6 6, .instantiable RX7 5, .instantiable RX8 16, .instantiable RX9 57, .initialized RX0, .initialized RX1, .initialized RX2, .initialized RX3, .initialized RX4, .initialized RX5, .initialized RX6, .initialized RX7, .initialized RX8, .initialized RX9]
set_option maxRecDepth 100000 in
theorem zow_pl : zow = ([378, 358, 219, 183, 365, 372, 189, 545, 175, 1354, 164, 161, 159, 157, 162, 163, 158, 165, 156, 166] : List Nat).filterMap (fun i => lw_tbl[i]?) := rfl
theorem zow_gd : zow.all goodWord = true := by decide +kernel
theorem zow_in : ∀ w ∈ zow, w ∈ ztb := by
  intro w hw
  have hg := List.all_eq_true.mp zow_gd w hw
  rw [zow_pl] at hw
  obtain ⟨i, -, hi⟩ := List.mem_filterMap.mp hw
  exact ztb_in hi hg
theorem zo_inst (c : Nat) (r : vw_C) (h : zcl[c]? = some r) : Cond.instantiable r.1 r.2.2 ∈ ztb ∧ Cond.initialized r.1 ∈ ztb := by
  match c, h with
  | 0, h => cases h; exact ⟨zow_in _ (List.mem_of_getElem? (i := 0) rfl), zow_in _ (List.mem_of_getElem? (i := 10) rfl)⟩
  | 1, h => cases h; exact ⟨zow_in _ (List.mem_of_getElem? (i := 1) rfl), zow_in _ (List.mem_of_getElem? (i := 11) rfl)⟩
  | 2, h => cases h; exact ⟨zow_in _ (List.mem_of_getElem? (i := 2) rfl), zow_in _ (List.mem_of_getElem? (i := 12) rfl)⟩
  | 3, h => cases h; exact ⟨zow_in _ (List.mem_of_getElem? (i := 3) rfl), zow_in _ (List.mem_of_getElem? (i := 13) rfl)⟩
  | 4, h => cases h; exact ⟨zow_in _ (List.mem_of_getElem? (i := 4) rfl), zow_in _ (List.mem_of_getElem? (i := 14) rfl)⟩
  | 5, h => cases h; exact ⟨zow_in _ (List.mem_of_getElem? (i := 5) rfl), zow_in _ (List.mem_of_getElem? (i := 15) rfl)⟩
  | 6, h => cases h; exact ⟨zow_in _ (List.mem_of_getElem? (i := 6) rfl), zow_in _ (List.mem_of_getElem? (i := 16) rfl)⟩
  | 7, h => cases h; exact ⟨zow_in _ (List.mem_of_getElem? (i := 7) rfl), zow_in _ (List.mem_of_getElem? (i := 17) rfl)⟩
  | 8, h => cases h; exact ⟨zow_in _ (List.mem_of_getElem? (i := 8) rfl), zow_in _ (List.mem_of_getElem? (i := 18) rfl)⟩
  | 9, h => cases h; exact ⟨zow_in _ (List.mem_of_getElem? (i := 9) rfl), zow_in _ (List.mem_of_getElem? (i := 19) rfl)⟩
  | c + 10, h => cases h
