/-! what the tables say, held against the words of the claim -/
def ztb : List Cond := lw_tbl.filter goodWord
theorem ztb_in {w : Cond} {i : Nat} (h : lw_tbl[i]? = some w) (g : goodWord w = true) : w ∈ ztb := List.mem_filter.mpr ⟨List.mem_of_getElem? h, g⟩
def zmp (y : Nat) : Nat × Nat × Nat × Nat × Nat := zmpL.getD y (0, 0, 0, 0, 0)
def zmck (y : Nat) : Bool := decide (lw_tbl[(zmp y).2.1]? = some (.initialized (zmt y).1.cls)) && (bif zms y then decide (lw_tbl[(zmp y).2.2.1]? = some (.static (zmt y).1)) else decide (lw_tbl[(zmp y).2.2.1]? = some (.instanceMethod (zmt y).1))) && ((zms y || decide ((zmt y).1.name = "<init>")) || decide (lw_tbl[(zmp y).2.2.2.1]? = some (.selects (zmt y).1.cls (zmt y).1 (zmt y).1))) && decide ((zmt y).1.cls = zown (zmo y)) && decide ((zmt y).1.cls ≠ "java/lang/invoke/MethodHandle") && decide ((zmt y).1.cls ≠ "java/lang/invoke/VarHandle") && decide ((parseMethodDescriptor (zmt y).1.desc).map (fun d => d.parameters.length) = some (zmp y).2.2.2.2) && decide ((zmt y).2.2.1 ≤ 30) && plainName (zmt y).1.cls
set_option maxRecDepth 100000 in
theorem zcw_pl : zcwL = zcpL.filterMap (fun i => lw_tbl[i]?) := rfl
theorem zcw_cd : zcwL.all (fun w => match w with | .code _ _ _ _ => true | _ => false) = true := by decide +kernel
theorem zcw_len : zcwL.length = 309 := by decide +kernel
theorem zcw_in (y : Nat) (h : y < 309) : Cond.code (zmt y).1 (zmt y).2.1 (zmt y).2.2.1 (zmt y).2.2.2 ∈ ztb := by
  have hy : y < zcwL.length := by rw [zcw_len]; exact h
  have hg : zcwL.getD y (.code yL_law cL_law 4 (some .boolean)) ∈ zcwL := by
    rw [List.getD_eq_getElem?_getD, List.getElem?_eq_getElem hy]
    exact List.getElem_mem hy
  have hc := List.all_eq_true.mp zcw_cd _ hg
  unfold zmt
  generalize zcwL.getD y (.code yL_law cL_law 4 (some .boolean)) = w at hg hc
  cases w with
  | code a b c d =>
    rw [zcw_pl] at hg
    obtain ⟨i, -, hi⟩ := List.mem_filterMap.mp hg
    exact ztb_in hi rfl
  | _ => cases hc
set_option maxRecDepth 100000 in
theorem zm_ck1 : ((List.range 50).map (fun y => y + 0)).all zmck = true := by decide +kernel
set_option maxRecDepth 100000 in
theorem zm_ck2 : ((List.range 50).map (fun y => y + 50)).all zmck = true := by decide +kernel
set_option maxRecDepth 100000 in
theorem zm_ck3 : ((List.range 50).map (fun y => y + 100)).all zmck = true := by decide +kernel
set_option maxRecDepth 100000 in
theorem zm_ck4 : ((List.range 50).map (fun y => y + 150)).all zmck = true := by decide +kernel
set_option maxRecDepth 100000 in
theorem zm_ck5 : ((List.range 50).map (fun y => y + 200)).all zmck = true := by decide +kernel
set_option maxRecDepth 100000 in
theorem zm_ck6 : ((List.range 50).map (fun y => y + 250)).all zmck = true := by decide +kernel
set_option maxRecDepth 100000 in
theorem zm_ck7 : ((List.range 9).map (fun y => y + 300)).all zmck = true := by decide +kernel
theorem zm_ck (y : Nat) (h : y < 309) : zmck y = true := by
  by_cases h1 : y < 50
  · exact List.all_eq_true.mp zm_ck1 y (List.mem_map.mpr ⟨y - 0, List.mem_range.mpr (by omega), by omega⟩)
  by_cases h2 : y < 100
  · exact List.all_eq_true.mp zm_ck2 y (List.mem_map.mpr ⟨y - 50, List.mem_range.mpr (by omega), by omega⟩)
  by_cases h3 : y < 150
  · exact List.all_eq_true.mp zm_ck3 y (List.mem_map.mpr ⟨y - 100, List.mem_range.mpr (by omega), by omega⟩)
  by_cases h4 : y < 200
  · exact List.all_eq_true.mp zm_ck4 y (List.mem_map.mpr ⟨y - 150, List.mem_range.mpr (by omega), by omega⟩)
  by_cases h5 : y < 250
  · exact List.all_eq_true.mp zm_ck5 y (List.mem_map.mpr ⟨y - 200, List.mem_range.mpr (by omega), by omega⟩)
  by_cases h6 : y < 300
  · exact List.all_eq_true.mp zm_ck6 y (List.mem_map.mpr ⟨y - 250, List.mem_range.mpr (by omega), by omega⟩)
  exact List.all_eq_true.mp zm_ck7 y (List.mem_map.mpr ⟨y - 300, List.mem_range.mpr (by omega), by omega⟩)
set_option maxRecDepth 100000 in
theorem zfl_ck : zflL.all (fun q => match zcl[q.2.2.1]? with | some r => decide (lw_tbl[q.2.2.2.2]? = some (.fieldLink (zown q.1) q.2.1 (r.2.1 q.2.2.2.1).1 (r.2.1 q.2.2.2.1).2.1 (r.2.1 q.2.2.2.1).2.2.1)) && decide (q.2.2.2.1 < r.2.2) | none => false) = true := by decide +kernel
set_option maxRecDepth 100000 in
theorem zml_ck : zmlL.all (fun q => decide (lw_tbl[q.2.2.2]? = some (.methodLink (zown q.1) q.2.1 (zmt q.2.2.1).1)) && decide (q.2.2.1 < 309)) = true := by decide +kernel
set_option maxRecDepth 100000 in
theorem znl_ck : znlL.all (fun q => decide (lw_tbl[q.2.2.2]? = some (.methodLinkNest (zown q.1) q.2.1 (zmt q.2.2.1).1 "WindowRing")) && decide (q.2.2.1 < 309)) = true := by decide +kernel
set_option maxRecDepth 100000 in
theorem zcl_ck : zclL.all (fun q => match zcl[q.2.2.1]? with | some r => decide (lw_tbl[q.2.2.2]? = some (.classLink (zown q.1) q.2.1 r.1)) | none => false) = true := by decide +kernel
set_option maxRecDepth 100000 in
theorem zcn_ck : zcnL.all (fun q => decide (lw_tbl[q.2.2.2]? = some (.constant (zown q.1) q.2.1 q.2.2.1))) = true := by decide +kernel
