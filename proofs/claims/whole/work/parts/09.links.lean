/-! the fields of the classes among the words; links by their lists -/
set_option maxRecDepth 100000 in
theorem zu_pl0 : u_ws RX0 TX0 9 = ([399, 401, 403, 405, 407, 409, 411, 413, 415] : List Nat).filterMap (fun i => lw_tbl[i]?) := rfl
set_option maxRecDepth 100000 in
theorem zu_pl1 : u_ws RX1 TX1 3 = ([535, 537, 539] : List Nat).filterMap (fun i => lw_tbl[i]?) := rfl
set_option maxRecDepth 100000 in
theorem zu_pl2 : u_ws RX2 TX2 16 = ([283, 285, 287, 289, 291, 293, 295, 297, 299, 301, 303, 305, 307, 309, 311, 313] : List Nat).filterMap (fun i => lw_tbl[i]?) := rfl
set_option maxRecDepth 100000 in
theorem zu_pl3 : u_ws RX3 TX3 12 = ([330, 332, 334, 336, 338, 340, 342, 344, 346, 348, 350, 352] : List Nat).filterMap (fun i => lw_tbl[i]?) := rfl
set_option maxRecDepth 100000 in
theorem zu_pl4 : u_ws RX4 TX4 17 = ([495, 497, 499, 501, 503, 505, 507, 509, 511, 513, 515, 517, 519, 521, 523, 525, 527] : List Nat).filterMap (fun i => lw_tbl[i]?) := rfl
set_option maxRecDepth 100000 in
theorem zu_pl5 : u_ws RX5 TX5 12 = ([442, 444, 446, 448, 450, 452, 454, 456, 458, 460, 462, 464] : List Nat).filterMap (fun i => lw_tbl[i]?) := rfl
set_option maxRecDepth 100000 in
theorem zu_pl6 : u_ws RX6 TX6 6 = ([204, 206, 208, 210, 212, 214] : List Nat).filterMap (fun i => lw_tbl[i]?) := rfl
set_option maxRecDepth 100000 in
theorem zu_pl7 : u_ws RX7 TX7 5 = ([563, 565, 567, 569, 571] : List Nat).filterMap (fun i => lw_tbl[i]?) := rfl
set_option maxRecDepth 100000 in
theorem zu_pl8 : u_ws RX8 TX8 16 = ([617, 619, 621, 623, 625, 627, 629, 631, 633, 635, 637, 639, 641, 643, 645, 647] : List Nat).filterMap (fun i => lw_tbl[i]?) := rfl
set_option maxRecDepth 100000 in
theorem zu_pl9 : u_ws RX9 TX9 57 = ([1443, 1445, 1447, 1449, 1451, 1453, 1455, 1457, 1459, 1461, 1463, 1465, 1467, 1469, 1471, 1473, 1475, 1477, 1479, 1481, 1483, 1485, 1487, 1489, 1491, 1493, 1495, 1497, 1499, 1501, 1503, 1505, 1507, 1509, 1511, 1513, 1515, 1517, 1519, 1521, 1523, 1525, 1527, 1529, 1531, 1533, 1535, 1537, 1539, 1541, 1543, 1545, 1547, 1549, 1551, 1553, 1555] : List Nat).filterMap (fun i => lw_tbl[i]?) := rfl
theorem zu_good {C : String} {T : u_T} {N : Nat} {ps : List Nat} (h : u_ws C T N = ps.filterMap (fun i => lw_tbl[i]?)) : ∀ w ∈ u_ws C T N, w ∈ ztb := by
  intro w hw
  obtain ⟨k, -, hk⟩ := List.mem_map.mp hw
  have hg : goodWord w = true := by
    rw [← hk]
    unfold u_lay
    split <;> rfl
  rw [h] at hw
  obtain ⟨i, -, hi⟩ := List.mem_filterMap.mp hw
  exact ztb_in hi hg
theorem zu_in (c : Nat) (r : vw_C) (h : zcl[c]? = some r) : ∀ w ∈ u_ws r.1 r.2.1 r.2.2, w ∈ ztb := by
  match c, h with
  | 0, h => cases h; exact zu_good zu_pl0
  | 1, h => cases h; exact zu_good zu_pl1
  | 2, h => cases h; exact zu_good zu_pl2
  | 3, h => cases h; exact zu_good zu_pl3
  | 4, h => cases h; exact zu_good zu_pl4
  | 5, h => cases h; exact zu_good zu_pl5
  | 6, h => cases h; exact zu_good zu_pl6
  | 7, h => cases h; exact zu_good zu_pl7
  | 8, h => cases h; exact zu_good zu_pl8
  | 9, h => cases h; exact zu_good zu_pl9
  | c + 10, h => cases h
theorem zu_nm (c : Nat) (r : vw_C) (h : zcl[c]? = some r) : ∀ a, a < r.2.2 → ∀ b, b < r.2.2 → a ≠ b → (r.2.1 a).2.1 ≠ (r.2.1 b).2.1 := by
  match c, h with
  | 0, h => cases h; exact nmX0
  | 1, h => cases h; exact nmX1
  | 2, h => cases h; exact nmX2
  | 3, h => cases h; exact nmX3
  | 4, h => cases h; exact nmX4
  | 5, h => cases h; exact nmX5
  | 6, h => cases h; exact nmX6
  | 7, h => cases h; exact nmX7
  | 8, h => cases h; exact nmX8
  | 9, h => cases h; exact nmX9
  | c + 10, h => cases h
theorem zu_ty (c : Nat) (r : vw_C) (h : zcl[c]? = some r) : ∀ k, k < r.2.2 → parseFieldDescriptor (r.2.1 k).2.2.1 = some (zty c k) := by
  match c, h with
  | 0, h => cases h; exact tyX0_ok
  | 1, h => cases h; exact tyX1_ok
  | 2, h => cases h; exact tyX2_ok
  | 3, h => cases h; exact tyX3_ok
  | 4, h => cases h; exact tyX4_ok
  | 5, h => cases h; exact tyX5_ok
  | 6, h => cases h; exact tyX6_ok
  | 7, h => cases h; exact tyX7_ok
  | 8, h => cases h; exact tyX8_ok
  | 9, h => cases h; exact tyX9_ok
  | c + 10, h => cases h
theorem zdcl_ck : ((List.range 10).all (fun c => match zcl[c]? with | some r => decide (r.1 = zown c) && (List.range 60).all (fun k => bif Nat.blt k r.2.2 then decide ((r.2.1 k).1 = r.1) else true) | none => false)) = true := by decide +kernel
theorem zkind_ck : ((List.range 10).all (fun c => match zcl[c]? with | some r => (List.range 60).all (fun k => bif Nat.blt k r.2.2 then (bif Nat.beq (zfk c k).1 0 then decide (zty c k = .int) else match zty c k with | .array _ => true | .object _ => true | _ => false) else true) | none => false)) = true := by decide +kernel
theorem zbeq {a b : Nat} (h : Nat.beq a b = true) : a = b := Nat.eq_of_beq_eq_true h
theorem zfl_of {y idx a b : Nat} (h : zflL.any (fun q => Nat.beq q.1 (zmo y) && Nat.beq q.2.1 idx && Nat.beq q.2.2.1 a && Nat.beq q.2.2.2.1 b) = true) : ∃ r : vw_C, zcl[a]? = some r ∧ b < r.2.2 ∧ Cond.fieldLink (zown (zmo y)) idx (r.2.1 b).1 (r.2.1 b).2.1 (r.2.1 b).2.2.1 ∈ ztb := by
  obtain ⟨q, hq, h1⟩ := List.any_eq_true.mp h
  simp only [Bool.and_eq_true] at h1
  obtain ⟨⟨⟨e1, e2⟩, e3⟩, e4⟩ := h1
  have hk := List.all_eq_true.mp zfl_ck q hq
  rw [zbeq e3, zbeq e4, zbeq e1, zbeq e2] at hk
  cases hr : zcl[a]? with
  | none => rw [hr] at hk; cases hk
  | some r =>
    rw [hr] at hk
    simp only [Bool.and_eq_true, decide_eq_true_eq] at hk
    exact ⟨r, rfl, hk.2, ztb_in hk.1 rfl⟩
theorem zml_of {y idx a : Nat} (h : zmlL.any (fun q => Nat.beq q.1 (zmo y) && Nat.beq q.2.1 idx && Nat.beq q.2.2.1 a) = true) : a < 309 ∧ Cond.methodLink (zown (zmo y)) idx (zmt a).1 ∈ ztb := by
  obtain ⟨q, hq, h1⟩ := List.any_eq_true.mp h
  simp only [Bool.and_eq_true] at h1
  obtain ⟨⟨e1, e2⟩, e3⟩ := h1
  have hk := List.all_eq_true.mp zml_ck q hq
  rw [zbeq e3, zbeq e1, zbeq e2] at hk
  simp only [Bool.and_eq_true, decide_eq_true_eq] at hk
  exact ⟨hk.2, ztb_in hk.1 rfl⟩
theorem znl_of {y idx a : Nat} (h : znlL.any (fun q => Nat.beq q.1 (zmo y) && Nat.beq q.2.1 idx && Nat.beq q.2.2.1 a) = true) : a < 309 ∧ ∃ q ∈ znlL, q.1 = zmo y ∧ q.2.1 = idx ∧ q.2.2.1 = a := by
  obtain ⟨q, hq, h1⟩ := List.any_eq_true.mp h
  simp only [Bool.and_eq_true] at h1
  obtain ⟨⟨e1, e2⟩, e3⟩ := h1
  have hk := List.all_eq_true.mp znl_ck q hq
  simp only [Bool.and_eq_true, decide_eq_true_eq] at hk
  exact ⟨by rw [← zbeq e3]; exact hk.2, q, hq, zbeq e1, zbeq e2, zbeq e3⟩
theorem zcl_of {y idx a : Nat} (h : zclL.any (fun q => Nat.beq q.1 (zmo y) && Nat.beq q.2.1 idx && Nat.beq q.2.2.1 a) = true) : ∃ r : vw_C, zcl[a]? = some r ∧ Cond.classLink (zown (zmo y)) idx r.1 ∈ ztb := by
  obtain ⟨q, hq, h1⟩ := List.any_eq_true.mp h
  simp only [Bool.and_eq_true] at h1
  obtain ⟨⟨e1, e2⟩, e3⟩ := h1
  have hk := List.all_eq_true.mp zcl_ck q hq
  rw [zbeq e3, zbeq e1, zbeq e2] at hk
  cases hr : zcl[a]? with
  | none => rw [hr] at hk; cases hk
  | some r =>
    rw [hr] at hk
    simp only [decide_eq_true_eq] at hk
    exact ⟨r, rfl, ztb_in hk rfl⟩
theorem zcn_of {y idx : Nat} {x : Int32} (h : zcnL.any (fun q => Nat.beq q.1 (zmo y) && Nat.beq q.2.1 idx && decide (q.2.2.1 = x)) = true) : Cond.constant (zown (zmo y)) idx x ∈ ztb := by
  obtain ⟨q, hq, h1⟩ := List.any_eq_true.mp h
  simp only [Bool.and_eq_true, decide_eq_true_eq] at h1
  obtain ⟨⟨e1, e2⟩, e3⟩ := h1
  have hk := List.all_eq_true.mp zcn_ck q hq
  rw [e3, zbeq e1, zbeq e2] at hk
  simp only [decide_eq_true_eq] at hk
  exact ztb_in hk rfl
theorem zcl_lt {c : Nat} {r : vw_C} (h : zcl[c]? = some r) : c < 10 := by
  have := (List.getElem?_eq_some_iff.mp h).1
  exact this
theorem zkind0 {c k : Nat} {r : vw_C} (h : zcl[c]? = some r) (hk : k < r.2.2) (h60 : k < 60) (h0 : (zfk c k).1 = 0) : zty c k = .int := by
  have h1 := List.all_eq_true.mp zkind_ck c (List.mem_range.mpr (zcl_lt h))
  rw [h] at h1
  have h2 := List.all_eq_true.mp h1 k (List.mem_range.mpr h60)
  have e1 : Nat.blt k r.2.2 = true := by simp [Nat.blt_eq, hk]
  rw [e1, h0] at h2
  simpa using h2
theorem zkindR {c k : Nat} {r : vw_C} (h : zcl[c]? = some r) (hk : k < r.2.2) (h60 : k < 60) (h0 : (zfk c k).1 ≠ 0) : (∃ t, zty c k = .array t) ∨ ∃ n, zty c k = .object n := by
  have h1 := List.all_eq_true.mp zkind_ck c (List.mem_range.mpr (zcl_lt h))
  rw [h] at h1
  have h2 := List.all_eq_true.mp h1 k (List.mem_range.mpr h60)
  have e1 : Nat.blt k r.2.2 = true := by simp [Nat.blt_eq, hk]
  have e2 : Nat.beq (zfk c k).1 0 = false := by
    cases hq : Nat.beq (zfk c k).1 0 with
    | false => rfl
    | true => exact absurd (zbeq hq) h0
  rw [e1, e2] at h2
  dsimp only [cond_true, cond_false] at h2
  cases hz : zty c k <;> first | exact Or.inl ⟨_, rfl⟩ | exact Or.inr ⟨_, rfl⟩ | (rw [hz] at h2; cases h2)
theorem zlen60 {c : Nat} {r : vw_C} (h : zcl[c]? = some r) : r.2.2 < 60 := by
  match c, h with
  | 0, h => cases h; decide
  | 1, h => cases h; decide
  | 2, h => cases h; decide
  | 3, h => cases h; decide
  | 4, h => cases h; decide
  | 5, h => cases h; decide
  | 6, h => cases h; decide
  | 7, h => cases h; decide
  | 8, h => cases h; decide
  | 9, h => cases h; decide
  | c + 10, h => cases h
theorem zfinal {c k : Nat} {r : vw_C} (h : zcl[c]? = some r) (hk : k < r.2.2) : (r.2.1 k).2.2.2 = Nat.beq (zfk c k).1 1 ∧ (r.2.1 k).1 = r.1 ∧ r.1 = zown c := by
  have h60 : k < 60 := Nat.lt_trans hk (zlen60 h)
  have h1 := List.all_eq_true.mp zfk_ck c (List.mem_range.mpr (zcl_lt h))
  rw [h] at h1
  have h2 := List.all_eq_true.mp h1 k (List.mem_range.mpr h60)
  have e1 : Nat.blt k r.2.2 = true := by simp [Nat.blt_eq, hk]
  have d1 := List.all_eq_true.mp zdcl_ck c (List.mem_range.mpr (zcl_lt h))
  rw [h] at d1
  simp only [Bool.and_eq_true, decide_eq_true_eq] at d1
  have d2 := List.all_eq_true.mp d1.2 k (List.mem_range.mpr h60)
  rw [e1] at d2
  dsimp only [cond_true] at d2
  refine ⟨?_, by simpa using d2, d1.1⟩
  rw [e1] at h2
  dsimp only [cond_true] at h2
  cases q0 : Nat.beq (zfk c k).1 0 with
  | true =>
    rw [q0] at h2
    dsimp only [cond_true] at h2
    simp only [Bool.and_eq_true, decide_eq_true_eq] at h2
    rw [h2.2, zbeq q0]
    rfl
  | false =>
    rw [q0] at h2
    dsimp only [cond_false] at h2
    cases q1 : Nat.beq (zfk c k).1 1 with
    | true =>
      rw [q1] at h2
      simpa using h2
    | false =>
      rw [q1] at h2
      dsimp only [cond_false] at h2
      simp only [Bool.and_eq_true, decide_eq_true_eq] at h2
      exact h2.2
