noncomputable def tB (l : Launch) (D : va_G) (b0 : Nat) (ad : Nat → Nat) (Hb : Heap) (tau : Nat → Int64) : mx_B := mx_mk tbig tinfo tcl tAO tNM tZs l D b0 ad Hb tau
section TB
variable {l : Launch} {D : va_G} {b0 : Nat} {ad : Nat → Nat} {Hb : Heap} {tau : Nat → Int64}
theorem zs_in : zs_0 ∈ (tB l D b0 ad Hb tau).2.1.2.2.2.2 := List.mem_cons_self
theorem ao_0 : "TitheHeap$Tray" ∈ (tB l D b0 ad Hb tau).2.1.2.2.1 := List.mem_of_getElem? (i := 0) rfl
theorem ao_1 : "TitheHeap$Moment" ∈ (tB l D b0 ad Hb tau).2.1.2.2.1 := List.mem_of_getElem? (i := 1) rfl
theorem ly_0_0 : (Jvm.Cond.laysFinal "TitheHeap$Atlas" "TitheHeap$Atlas" "ways" "[I") ∈ tbig := tin_1 (List.mem_of_getElem? (i := 115) (by decide +kernel)) rfl
theorem ly_0_1 : (Jvm.Cond.laysFinal "TitheHeap$Atlas" "TitheHeap$Atlas" "parts" "[B") ∈ tbig := tin_1 (List.mem_of_getElem? (i := 117) (by decide +kernel)) rfl
theorem ly_0_2 : (Jvm.Cond.laysFinal "TitheHeap$Atlas" "TitheHeap$Atlas" "heaps" "[B") ∈ tbig := tin_1 (List.mem_of_getElem? (i := 119) (by decide +kernel)) rfl
theorem ly_0_3 : (Jvm.Cond.laysFinal "TitheHeap$Atlas" "TitheHeap$Atlas" "row" "[I") ∈ tbig := tin_1 (List.mem_of_getElem? (i := 121) (by decide +kernel)) rfl
theorem ly_0_4 : (Jvm.Cond.lays "TitheHeap$Atlas" "TitheHeap$Atlas" "sum" "I") ∈ tbig := tin_1 (List.mem_of_getElem? (i := 123) (by decide +kernel)) rfl
theorem ly_0_5 : (Jvm.Cond.lays "TitheHeap$Atlas" "TitheHeap$Atlas" "stands" "I") ∈ tbig := tin_1 (List.mem_of_getElem? (i := 125) (by decide +kernel)) rfl
theorem cw_0 : ∀ w ∈ u_ws cr_0.1 cr_0.2.1 cr_0.2.2, w ∈ tbig := by
  intro w hw
  obtain ⟨j, hj, rfl⟩ := List.mem_map.mp hw
  have hj := List.mem_range.mp hj
  have hj : j < 6 := hj
  match j, hj with
  | 0, _ => exact ly_0_0
  | 1, _ => exact ly_0_1
  | 2, _ => exact ly_0_2
  | 3, _ => exact ly_0_3
  | 4, _ => exact ly_0_4
  | 5, _ => exact ly_0_5
  | j + 6, h => exact absurd h (by omega)
theorem cs_0 : mx_Cs (tB l D b0 ad Hb tau) 0 cr_0 := ⟨rfl, cw_0, (by decide +kernel), cy_0, (by decide +kernel)⟩
theorem fs_0 : ([.null, .null, .null, .null, .int 0, .int 0] : List Value).length = 6 ∧ ∀ (k : Nat) (ty : FieldType), k < 6 → parseFieldDescriptor (cr_0.2.1 k).2.2.1 = some ty → ([.null, .null, .null, .null, .int 0, .int 0] : List Value)[k]? = some (defaultValue ty) := by
  refine ⟨rfl, fun j ty hj h => ?_⟩
  have h1 : ∀ k, k < 6 → parseFieldDescriptor (cr_0.2.1 k).2.2.1 = some (cy_0 k) := by decide +kernel
  have h2 : ∀ k, k < 6 → ([.null, .null, .null, .null, .int 0, .int 0] : List Value)[k]? = some (defaultValue (cy_0 k)) := by decide +kernel
  cases (h1 j hj).symm.trans h
  exact h2 j hj
theorem ly_1_0 : (Jvm.Cond.lays "TitheHeap$Draws" "TitheHeap$Draws" "x" "I") ∈ tbig := tin_4 (List.mem_of_getElem? (i := 100) (by decide +kernel)) rfl
theorem cw_1 : ∀ w ∈ u_ws cr_1.1 cr_1.2.1 cr_1.2.2, w ∈ tbig := by
  intro w hw
  obtain ⟨j, hj, rfl⟩ := List.mem_map.mp hw
  have hj := List.mem_range.mp hj
  have hj : j < 1 := hj
  match j, hj with
  | 0, _ => exact ly_1_0
  | j + 1, h => exact absurd h (by omega)
theorem cs_1 : mx_Cs (tB l D b0 ad Hb tau) 1 cr_1 := ⟨rfl, cw_1, (by decide +kernel), cy_1, (by decide +kernel)⟩
theorem fs_1 : ([.int 0] : List Value).length = 1 ∧ ∀ (k : Nat) (ty : FieldType), k < 1 → parseFieldDescriptor (cr_1.2.1 k).2.2.1 = some ty → ([.int 0] : List Value)[k]? = some (defaultValue ty) := by
  refine ⟨rfl, fun j ty hj h => ?_⟩
  have h1 : ∀ k, k < 1 → parseFieldDescriptor (cr_1.2.1 k).2.2.1 = some (cy_1 k) := by decide +kernel
  have h2 : ∀ k, k < 1 → ([.int 0] : List Value)[k]? = some (defaultValue (cy_1 k)) := by decide +kernel
  cases (h1 j hj).symm.trans h
  exact h2 j hj
theorem ly_2_0 : (Jvm.Cond.laysFinal "TitheHeap$Going" "TitheHeap$Going" "atlas" "LTitheHeap$Atlas;") ∈ tbig := tin_1 (List.mem_of_getElem? (i := 206) (by decide +kernel)) rfl
theorem ly_2_1 : (Jvm.Cond.laysFinal "TitheHeap$Going" "TitheHeap$Going" "mill" "LTitheHeap$Mill;") ∈ tbig := tin_1 (List.mem_of_getElem? (i := 208) (by decide +kernel)) rfl
theorem ly_2_2 : (Jvm.Cond.laysFinal "TitheHeap$Going" "TitheHeap$Going" "path" "[I") ∈ tbig := tin_1 (List.mem_of_getElem? (i := 210) (by decide +kernel)) rfl
theorem ly_2_3 : (Jvm.Cond.laysFinal "TitheHeap$Going" "TitheHeap$Going" "seen" "[I") ∈ tbig := tin_1 (List.mem_of_getElem? (i := 212) (by decide +kernel)) rfl
theorem ly_2_4 : (Jvm.Cond.laysFinal "TitheHeap$Going" "TitheHeap$Going" "leading" "[I") ∈ tbig := tin_1 (List.mem_of_getElem? (i := 214) (by decide +kernel)) rfl
theorem ly_2_5 : (Jvm.Cond.laysFinal "TitheHeap$Going" "TitheHeap$Going" "roundOf" "[I") ∈ tbig := tin_1 (List.mem_of_getElem? (i := 216) (by decide +kernel)) rfl
theorem ly_2_6 : (Jvm.Cond.lays "TitheHeap$Going" "TitheHeap$Going" "tail" "I") ∈ tbig := tin_1 (List.mem_of_getElem? (i := 218) (by decide +kernel)) rfl
theorem ly_2_7 : (Jvm.Cond.lays "TitheHeap$Going" "TitheHeap$Going" "period" "I") ∈ tbig := tin_1 (List.mem_of_getElem? (i := 220) (by decide +kernel)) rfl
theorem ly_2_8 : (Jvm.Cond.lays "TitheHeap$Going" "TitheHeap$Going" "edens" "I") ∈ tbig := tin_1 (List.mem_of_getElem? (i := 222) (by decide +kernel)) rfl
theorem ly_2_9 : (Jvm.Cond.lays "TitheHeap$Going" "TitheHeap$Going" "again" "I") ∈ tbig := tin_1 (List.mem_of_getElem? (i := 224) (by decide +kernel)) rfl
theorem ly_2_10 : (Jvm.Cond.lays "TitheHeap$Going" "TitheHeap$Going" "rounds" "I") ∈ tbig := tin_1 (List.mem_of_getElem? (i := 226) (by decide +kernel)) rfl
theorem ly_2_11 : (Jvm.Cond.lays "TitheHeap$Going" "TitheHeap$Going" "longest" "I") ∈ tbig := tin_1 (List.mem_of_getElem? (i := 228) (by decide +kernel)) rfl
theorem cw_2 : ∀ w ∈ u_ws cr_2.1 cr_2.2.1 cr_2.2.2, w ∈ tbig := by
  intro w hw
  obtain ⟨j, hj, rfl⟩ := List.mem_map.mp hw
  have hj := List.mem_range.mp hj
  have hj : j < 12 := hj
  match j, hj with
  | 0, _ => exact ly_2_0
  | 1, _ => exact ly_2_1
  | 2, _ => exact ly_2_2
  | 3, _ => exact ly_2_3
  | 4, _ => exact ly_2_4
  | 5, _ => exact ly_2_5
  | 6, _ => exact ly_2_6
  | 7, _ => exact ly_2_7
  | 8, _ => exact ly_2_8
  | 9, _ => exact ly_2_9
  | 10, _ => exact ly_2_10
  | 11, _ => exact ly_2_11
  | j + 12, h => exact absurd h (by omega)
theorem cs_2 : mx_Cs (tB l D b0 ad Hb tau) 2 cr_2 := ⟨rfl, cw_2, (by decide +kernel), cy_2, (by decide +kernel)⟩
theorem fs_2 : ([.null, .null, .null, .null, .null, .null, .int 0, .int 0, .int 0, .int 0, .int 0, .int 0] : List Value).length = 12 ∧ ∀ (k : Nat) (ty : FieldType), k < 12 → parseFieldDescriptor (cr_2.2.1 k).2.2.1 = some ty → ([.null, .null, .null, .null, .null, .null, .int 0, .int 0, .int 0, .int 0, .int 0, .int 0] : List Value)[k]? = some (defaultValue ty) := by
  refine ⟨rfl, fun j ty hj h => ?_⟩
  have h1 : ∀ k, k < 12 → parseFieldDescriptor (cr_2.2.1 k).2.2.1 = some (cy_2 k) := by decide +kernel
  have h2 : ∀ k, k < 12 → ([.null, .null, .null, .null, .null, .null, .int 0, .int 0, .int 0, .int 0, .int 0, .int 0] : List Value)[k]? = some (defaultValue (cy_2 k)) := by decide +kernel
  cases (h1 j hj).symm.trans h
  exact h2 j hj
theorem ly_3_0 : (Jvm.Cond.laysFinal "TitheHeap$Laws" "TitheHeap$Laws" "givesCode" "[I") ∈ tbig := tin_1 (List.mem_of_getElem? (i := 147) (by decide +kernel)) rfl
theorem ly_3_1 : (Jvm.Cond.laysFinal "TitheHeap$Laws" "TitheHeap$Laws" "mayCode" "[I") ∈ tbig := tin_1 (List.mem_of_getElem? (i := 149) (by decide +kernel)) rfl
theorem ly_3_2 : (Jvm.Cond.laysFinal "TitheHeap$Laws" "TitheHeap$Laws" "lines" "I") ∈ tbig := tin_1 (List.mem_of_getElem? (i := 151) (by decide +kernel)) rfl
theorem cw_3 : ∀ w ∈ u_ws cr_3.1 cr_3.2.1 cr_3.2.2, w ∈ tbig := by
  intro w hw
  obtain ⟨j, hj, rfl⟩ := List.mem_map.mp hw
  have hj := List.mem_range.mp hj
  have hj : j < 3 := hj
  match j, hj with
  | 0, _ => exact ly_3_0
  | 1, _ => exact ly_3_1
  | 2, _ => exact ly_3_2
  | j + 3, h => exact absurd h (by omega)
theorem cs_3 : mx_Cs (tB l D b0 ad Hb tau) 3 cr_3 := ⟨rfl, cw_3, (by decide +kernel), cy_3, (by decide +kernel)⟩
theorem fs_3 : ([.null, .null, .int 0] : List Value).length = 3 ∧ ∀ (k : Nat) (ty : FieldType), k < 3 → parseFieldDescriptor (cr_3.2.1 k).2.2.1 = some ty → ([.null, .null, .int 0] : List Value)[k]? = some (defaultValue ty) := by
  refine ⟨rfl, fun j ty hj h => ?_⟩
  have h1 : ∀ k, k < 3 → parseFieldDescriptor (cr_3.2.1 k).2.2.1 = some (cy_3 k) := by decide +kernel
  have h2 : ∀ k, k < 3 → ([.null, .null, .int 0] : List Value)[k]? = some (defaultValue (cy_3 k)) := by decide +kernel
  cases (h1 j hj).symm.trans h
  exact h2 j hj
theorem ly_4_0 : (Jvm.Cond.laysFinal "TitheHeap$Mill" "TitheHeap$Mill" "atlas" "LTitheHeap$Atlas;") ∈ tbig := tin_1 (List.mem_of_getElem? (i := 163) (by decide +kernel)) rfl
theorem ly_4_1 : (Jvm.Cond.lays "TitheHeap$Mill" "TitheHeap$Mill" "laws" "LTitheHeap$Laws;") ∈ tbig := tin_1 (List.mem_of_getElem? (i := 165) (by decide +kernel)) rfl
theorem ly_4_2 : (Jvm.Cond.lays "TitheHeap$Mill" "TitheHeap$Mill" "epoch" "I") ∈ tbig := tin_1 (List.mem_of_getElem? (i := 167) (by decide +kernel)) rfl
theorem ly_4_3 : (Jvm.Cond.laysFinal "TitheHeap$Mill" "TitheHeap$Mill" "byDeed" "[I") ∈ tbig := tin_1 (List.mem_of_getElem? (i := 169) (by decide +kernel)) rfl
theorem ly_4_4 : (Jvm.Cond.laysFinal "TitheHeap$Mill" "TitheHeap$Mill" "byLot" "[I") ∈ tbig := tin_1 (List.mem_of_getElem? (i := 171) (by decide +kernel)) rfl
theorem ly_4_5 : (Jvm.Cond.laysFinal "TitheHeap$Mill" "TitheHeap$Mill" "gifts" "[I") ∈ tbig := tin_1 (List.mem_of_getElem? (i := 173) (by decide +kernel)) rfl
theorem ly_4_6 : (Jvm.Cond.laysFinal "TitheHeap$Mill" "TitheHeap$Mill" "known" "[I") ∈ tbig := tin_1 (List.mem_of_getElem? (i := 175) (by decide +kernel)) rfl
theorem ly_4_7 : (Jvm.Cond.laysFinal "TitheHeap$Mill" "TitheHeap$Mill" "stack" "[I") ∈ tbig := tin_1 (List.mem_of_getElem? (i := 177) (by decide +kernel)) rfl
theorem ly_4_8 : (Jvm.Cond.laysFinal "TitheHeap$Mill" "TitheHeap$Mill" "tallied" "[I") ∈ tbig := tin_1 (List.mem_of_getElem? (i := 179) (by decide +kernel)) rfl
theorem cw_4 : ∀ w ∈ u_ws cr_4.1 cr_4.2.1 cr_4.2.2, w ∈ tbig := by
  intro w hw
  obtain ⟨j, hj, rfl⟩ := List.mem_map.mp hw
  have hj := List.mem_range.mp hj
  have hj : j < 9 := hj
  match j, hj with
  | 0, _ => exact ly_4_0
  | 1, _ => exact ly_4_1
  | 2, _ => exact ly_4_2
  | 3, _ => exact ly_4_3
  | 4, _ => exact ly_4_4
  | 5, _ => exact ly_4_5
  | 6, _ => exact ly_4_6
  | 7, _ => exact ly_4_7
  | 8, _ => exact ly_4_8
  | j + 9, h => exact absurd h (by omega)
theorem cs_4 : mx_Cs (tB l D b0 ad Hb tau) 4 cr_4 := ⟨rfl, cw_4, (by decide +kernel), cy_4, (by decide +kernel)⟩
theorem fs_4 : ([.null, .null, .int 0, .null, .null, .null, .null, .null, .null] : List Value).length = 9 ∧ ∀ (k : Nat) (ty : FieldType), k < 9 → parseFieldDescriptor (cr_4.2.1 k).2.2.1 = some ty → ([.null, .null, .int 0, .null, .null, .null, .null, .null, .null] : List Value)[k]? = some (defaultValue ty) := by
  refine ⟨rfl, fun j ty hj h => ?_⟩
  have h1 : ∀ k, k < 9 → parseFieldDescriptor (cr_4.2.1 k).2.2.1 = some (cy_4 k) := by decide +kernel
  have h2 : ∀ k, k < 9 → ([.null, .null, .int 0, .null, .null, .null, .null, .null, .null] : List Value)[k]? = some (defaultValue (cy_4 k)) := by decide +kernel
  cases (h1 j hj).symm.trans h
  exact h2 j hj
theorem ly_5_0 : (Jvm.Cond.lays "TitheHeap$Moment" "TitheHeap$Moment" "laws" "LTitheHeap$Laws;") ∈ tbig := tin_2 (List.mem_of_getElem? (i := 70) (by decide +kernel)) rfl
theorem ly_5_1 : (Jvm.Cond.lays "TitheHeap$Moment" "TitheHeap$Moment" "sum" "I") ∈ tbig := tin_2 (List.mem_of_getElem? (i := 72) (by decide +kernel)) rfl
theorem ly_5_2 : (Jvm.Cond.lays "TitheHeap$Moment" "TitheHeap$Moment" "stand" "I") ∈ tbig := tin_2 (List.mem_of_getElem? (i := 74) (by decide +kernel)) rfl
theorem ly_5_3 : (Jvm.Cond.lays "TitheHeap$Moment" "TitheHeap$Moment" "time" "I") ∈ tbig := tin_2 (List.mem_of_getElem? (i := 76) (by decide +kernel)) rfl
theorem ly_5_4 : (Jvm.Cond.lays "TitheHeap$Moment" "TitheHeap$Moment" "moonCount" "I") ∈ tbig := tin_2 (List.mem_of_getElem? (i := 78) (by decide +kernel)) rfl
theorem ly_5_5 : (Jvm.Cond.lays "TitheHeap$Moment" "TitheHeap$Moment" "made" "Z") ∈ tbig := tin_2 (List.mem_of_getElem? (i := 80) (by decide +kernel)) rfl
theorem cw_5 : ∀ w ∈ u_ws cr_5.1 cr_5.2.1 cr_5.2.2, w ∈ tbig := by
  intro w hw
  obtain ⟨j, hj, rfl⟩ := List.mem_map.mp hw
  have hj := List.mem_range.mp hj
  have hj : j < 6 := hj
  match j, hj with
  | 0, _ => exact ly_5_0
  | 1, _ => exact ly_5_1
  | 2, _ => exact ly_5_2
  | 3, _ => exact ly_5_3
  | 4, _ => exact ly_5_4
  | 5, _ => exact ly_5_5
  | j + 6, h => exact absurd h (by omega)
theorem cs_5 : mx_Cs (tB l D b0 ad Hb tau) 5 cr_5 := ⟨rfl, cw_5, (by decide +kernel), cy_5, (by decide +kernel)⟩
theorem fs_5 : ([.null, .int 0, .int 0, .int 0, .int 0, .int 0] : List Value).length = 6 ∧ ∀ (k : Nat) (ty : FieldType), k < 6 → parseFieldDescriptor (cr_5.2.1 k).2.2.1 = some ty → ([.null, .int 0, .int 0, .int 0, .int 0, .int 0] : List Value)[k]? = some (defaultValue ty) := by
  refine ⟨rfl, fun j ty hj h => ?_⟩
  have h1 : ∀ k, k < 6 → parseFieldDescriptor (cr_5.2.1 k).2.2.1 = some (cy_5 k) := by decide +kernel
  have h2 : ∀ k, k < 6 → ([.null, .int 0, .int 0, .int 0, .int 0, .int 0] : List Value)[k]? = some (defaultValue (cy_5 k)) := by decide +kernel
  cases (h1 j hj).symm.trans h
  exact h2 j hj
theorem ly_6_0 : (Jvm.Cond.laysFinal "TitheHeap$Past" "TitheHeap$Past" "kept" "[I") ∈ tbig := tin_2 (List.mem_of_getElem? (i := 92) (by decide +kernel)) rfl
theorem ly_6_1 : (Jvm.Cond.lays "TitheHeap$Past" "TitheHeap$Past" "calls" "I") ∈ tbig := tin_2 (List.mem_of_getElem? (i := 94) (by decide +kernel)) rfl
theorem cw_6 : ∀ w ∈ u_ws cr_6.1 cr_6.2.1 cr_6.2.2, w ∈ tbig := by
  intro w hw
  obtain ⟨j, hj, rfl⟩ := List.mem_map.mp hw
  have hj := List.mem_range.mp hj
  have hj : j < 2 := hj
  match j, hj with
  | 0, _ => exact ly_6_0
  | 1, _ => exact ly_6_1
  | j + 2, h => exact absurd h (by omega)
theorem cs_6 : mx_Cs (tB l D b0 ad Hb tau) 6 cr_6 := ⟨rfl, cw_6, (by decide +kernel), cy_6, (by decide +kernel)⟩
theorem fs_6 : ([.null, .int 0] : List Value).length = 2 ∧ ∀ (k : Nat) (ty : FieldType), k < 2 → parseFieldDescriptor (cr_6.2.1 k).2.2.1 = some ty → ([.null, .int 0] : List Value)[k]? = some (defaultValue ty) := by
  refine ⟨rfl, fun j ty hj h => ?_⟩
  have h1 : ∀ k, k < 2 → parseFieldDescriptor (cr_6.2.1 k).2.2.1 = some (cy_6 k) := by decide +kernel
  have h2 : ∀ k, k < 2 → ([.null, .int 0] : List Value)[k]? = some (defaultValue (cy_6 k)) := by decide +kernel
  cases (h1 j hj).symm.trans h
  exact h2 j hj
theorem ly_7_0 : (Jvm.Cond.lays "TitheHeap$Reader" "TitheHeap$Reader" "text" "[B") ∈ tbig := tin_1 (List.mem_of_getElem? (i := 59) (by decide +kernel)) rfl
theorem ly_7_1 : (Jvm.Cond.lays "TitheHeap$Reader" "TitheHeap$Reader" "length" "I") ∈ tbig := tin_1 (List.mem_of_getElem? (i := 61) (by decide +kernel)) rfl
theorem ly_7_2 : (Jvm.Cond.lays "TitheHeap$Reader" "TitheHeap$Reader" "spot" "I") ∈ tbig := tin_1 (List.mem_of_getElem? (i := 63) (by decide +kernel)) rfl
theorem ly_7_3 : (Jvm.Cond.lays "TitheHeap$Reader" "TitheHeap$Reader" "begin" "I") ∈ tbig := tin_1 (List.mem_of_getElem? (i := 65) (by decide +kernel)) rfl
theorem ly_7_4 : (Jvm.Cond.lays "TitheHeap$Reader" "TitheHeap$Reader" "kind" "I") ∈ tbig := tin_1 (List.mem_of_getElem? (i := 67) (by decide +kernel)) rfl
theorem ly_7_5 : (Jvm.Cond.lays "TitheHeap$Reader" "TitheHeap$Reader" "value" "I") ∈ tbig := tin_1 (List.mem_of_getElem? (i := 69) (by decide +kernel)) rfl
theorem ly_7_6 : (Jvm.Cond.laysFinal "TitheHeap$Reader" "TitheHeap$Reader" "code" "[I") ∈ tbig := tin_1 (List.mem_of_getElem? (i := 71) (by decide +kernel)) rfl
theorem ly_7_7 : (Jvm.Cond.lays "TitheHeap$Reader" "TitheHeap$Reader" "codeSize" "I") ∈ tbig := tin_1 (List.mem_of_getElem? (i := 73) (by decide +kernel)) rfl
theorem ly_7_8 : (Jvm.Cond.lays "TitheHeap$Reader" "TitheHeap$Reader" "givesCode" "[I") ∈ tbig := tin_1 (List.mem_of_getElem? (i := 75) (by decide +kernel)) rfl
theorem ly_7_9 : (Jvm.Cond.lays "TitheHeap$Reader" "TitheHeap$Reader" "mayCode" "[I") ∈ tbig := tin_1 (List.mem_of_getElem? (i := 77) (by decide +kernel)) rfl
theorem ly_7_10 : (Jvm.Cond.lays "TitheHeap$Reader" "TitheHeap$Reader" "lines" "I") ∈ tbig := tin_1 (List.mem_of_getElem? (i := 79) (by decide +kernel)) rfl
theorem ly_7_11 : (Jvm.Cond.laysFinal "TitheHeap$Reader" "TitheHeap$Reader" "sizes" "[I") ∈ tbig := tin_1 (List.mem_of_getElem? (i := 81) (by decide +kernel)) rfl
theorem ly_7_12 : (Jvm.Cond.lays "TitheHeap$Reader" "TitheHeap$Reader" "total" "I") ∈ tbig := tin_1 (List.mem_of_getElem? (i := 83) (by decide +kernel)) rfl
theorem ly_7_13 : (Jvm.Cond.lays "TitheHeap$Reader" "TitheHeap$Reader" "season" "I") ∈ tbig := tin_1 (List.mem_of_getElem? (i := 85) (by decide +kernel)) rfl
theorem ly_7_14 : (Jvm.Cond.lays "TitheHeap$Reader" "TitheHeap$Reader" "faultKind" "I") ∈ tbig := tin_1 (List.mem_of_getElem? (i := 87) (by decide +kernel)) rfl
theorem ly_7_15 : (Jvm.Cond.lays "TitheHeap$Reader" "TitheHeap$Reader" "faultPlace" "I") ∈ tbig := tin_1 (List.mem_of_getElem? (i := 89) (by decide +kernel)) rfl
theorem cw_7 : ∀ w ∈ u_ws cr_7.1 cr_7.2.1 cr_7.2.2, w ∈ tbig := by
  intro w hw
  obtain ⟨j, hj, rfl⟩ := List.mem_map.mp hw
  have hj := List.mem_range.mp hj
  have hj : j < 16 := hj
  match j, hj with
  | 0, _ => exact ly_7_0
  | 1, _ => exact ly_7_1
  | 2, _ => exact ly_7_2
  | 3, _ => exact ly_7_3
  | 4, _ => exact ly_7_4
  | 5, _ => exact ly_7_5
  | 6, _ => exact ly_7_6
  | 7, _ => exact ly_7_7
  | 8, _ => exact ly_7_8
  | 9, _ => exact ly_7_9
  | 10, _ => exact ly_7_10
  | 11, _ => exact ly_7_11
  | 12, _ => exact ly_7_12
  | 13, _ => exact ly_7_13
  | 14, _ => exact ly_7_14
  | 15, _ => exact ly_7_15
  | j + 16, h => exact absurd h (by omega)
theorem cs_7 : mx_Cs (tB l D b0 ad Hb tau) 7 cr_7 := ⟨rfl, cw_7, (by decide +kernel), cy_7, (by decide +kernel)⟩
theorem fs_7 : ([.null, .int 0, .int 0, .int 0, .int 0, .int 0, .null, .int 0, .null, .null, .int 0, .null, .int 0, .int 0, .int 0, .int 0] : List Value).length = 16 ∧ ∀ (k : Nat) (ty : FieldType), k < 16 → parseFieldDescriptor (cr_7.2.1 k).2.2.1 = some ty → ([.null, .int 0, .int 0, .int 0, .int 0, .int 0, .null, .int 0, .null, .null, .int 0, .null, .int 0, .int 0, .int 0, .int 0] : List Value)[k]? = some (defaultValue ty) := by
  refine ⟨rfl, fun j ty hj h => ?_⟩
  have h1 : ∀ k, k < 16 → parseFieldDescriptor (cr_7.2.1 k).2.2.1 = some (cy_7 k) := by decide +kernel
  have h2 : ∀ k, k < 16 → ([.null, .int 0, .int 0, .int 0, .int 0, .int 0, .null, .int 0, .null, .null, .int 0, .null, .int 0, .int 0, .int 0, .int 0] : List Value)[k]? = some (defaultValue (cy_7 k)) := by decide +kernel
  cases (h1 j hj).symm.trans h
  exact h2 j hj
theorem ly_8_0 : (Jvm.Cond.laysFinal "TitheHeap$Search" "TitheHeap$Search" "atlas" "LTitheHeap$Atlas;") ∈ tbig := tin_2 (List.mem_of_getElem? (i := 7) (by decide +kernel)) rfl
theorem ly_8_1 : (Jvm.Cond.laysFinal "TitheHeap$Search" "TitheHeap$Search" "mill" "LTitheHeap$Mill;") ∈ tbig := tin_2 (List.mem_of_getElem? (i := 9) (by decide +kernel)) rfl
theorem ly_8_2 : (Jvm.Cond.laysFinal "TitheHeap$Search" "TitheHeap$Search" "queue" "[I") ∈ tbig := tin_2 (List.mem_of_getElem? (i := 11) (by decide +kernel)) rfl
theorem ly_8_3 : (Jvm.Cond.laysFinal "TitheHeap$Search" "TitheHeap$Search" "before" "[I") ∈ tbig := tin_2 (List.mem_of_getElem? (i := 13) (by decide +kernel)) rfl
theorem ly_8_4 : (Jvm.Cond.laysFinal "TitheHeap$Search" "TitheHeap$Search" "deeds" "[I") ∈ tbig := tin_2 (List.mem_of_getElem? (i := 15) (by decide +kernel)) rfl
theorem ly_8_5 : (Jvm.Cond.laysFinal "TitheHeap$Search" "TitheHeap$Search" "moons" "[I") ∈ tbig := tin_2 (List.mem_of_getElem? (i := 17) (by decide +kernel)) rfl
theorem ly_8_6 : (Jvm.Cond.laysFinal "TitheHeap$Search" "TitheHeap$Search" "first" "[I") ∈ tbig := tin_2 (List.mem_of_getElem? (i := 19) (by decide +kernel)) rfl
theorem ly_8_7 : (Jvm.Cond.laysFinal "TitheHeap$Search" "TitheHeap$Search" "second" "[I") ∈ tbig := tin_2 (List.mem_of_getElem? (i := 21) (by decide +kernel)) rfl
theorem ly_8_8 : (Jvm.Cond.lays "TitheHeap$Search" "TitheHeap$Search" "reached" "I") ∈ tbig := tin_2 (List.mem_of_getElem? (i := 23) (by decide +kernel)) rfl
theorem cw_8 : ∀ w ∈ u_ws cr_8.1 cr_8.2.1 cr_8.2.2, w ∈ tbig := by
  intro w hw
  obtain ⟨j, hj, rfl⟩ := List.mem_map.mp hw
  have hj := List.mem_range.mp hj
  have hj : j < 9 := hj
  match j, hj with
  | 0, _ => exact ly_8_0
  | 1, _ => exact ly_8_1
  | 2, _ => exact ly_8_2
  | 3, _ => exact ly_8_3
  | 4, _ => exact ly_8_4
  | 5, _ => exact ly_8_5
  | 6, _ => exact ly_8_6
  | 7, _ => exact ly_8_7
  | 8, _ => exact ly_8_8
  | j + 9, h => exact absurd h (by omega)
theorem cs_8 : mx_Cs (tB l D b0 ad Hb tau) 8 cr_8 := ⟨rfl, cw_8, (by decide +kernel), cy_8, (by decide +kernel)⟩
theorem fs_8 : ([.null, .null, .null, .null, .null, .null, .null, .null, .int 0] : List Value).length = 9 ∧ ∀ (k : Nat) (ty : FieldType), k < 9 → parseFieldDescriptor (cr_8.2.1 k).2.2.1 = some ty → ([.null, .null, .null, .null, .null, .null, .null, .null, .int 0] : List Value)[k]? = some (defaultValue ty) := by
  refine ⟨rfl, fun j ty hj h => ?_⟩
  have h1 : ∀ k, k < 9 → parseFieldDescriptor (cr_8.2.1 k).2.2.1 = some (cy_8 k) := by decide +kernel
  have h2 : ∀ k, k < 9 → ([.null, .null, .null, .null, .null, .null, .null, .null, .int 0] : List Value)[k]? = some (defaultValue (cy_8 k)) := by decide +kernel
  cases (h1 j hj).symm.trans h
  exact h2 j hj
theorem ly_9_0 : (Jvm.Cond.laysFinal "TitheHeap$Spread" "TitheHeap$Spread" "atlas" "LTitheHeap$Atlas;") ∈ tbig := tin_2 (List.mem_of_getElem? (i := 35) (by decide +kernel)) rfl
theorem ly_9_1 : (Jvm.Cond.laysFinal "TitheHeap$Spread" "TitheHeap$Spread" "mill" "LTitheHeap$Mill;") ∈ tbig := tin_2 (List.mem_of_getElem? (i := 37) (by decide +kernel)) rfl
theorem ly_9_2 : (Jvm.Cond.laysFinal "TitheHeap$Spread" "TitheHeap$Spread" "ways" "[J") ∈ tbig := tin_2 (List.mem_of_getElem? (i := 39) (by decide +kernel)) rfl
theorem cw_9 : ∀ w ∈ u_ws cr_9.1 cr_9.2.1 cr_9.2.2, w ∈ tbig := by
  intro w hw
  obtain ⟨j, hj, rfl⟩ := List.mem_map.mp hw
  have hj := List.mem_range.mp hj
  have hj : j < 3 := hj
  match j, hj with
  | 0, _ => exact ly_9_0
  | 1, _ => exact ly_9_1
  | 2, _ => exact ly_9_2
  | j + 3, h => exact absurd h (by omega)
theorem cs_9 : mx_Cs (tB l D b0 ad Hb tau) 9 cr_9 := ⟨rfl, cw_9, (by decide +kernel), cy_9, (by decide +kernel)⟩
theorem fs_9 : ([.null, .null, .null] : List Value).length = 3 ∧ ∀ (k : Nat) (ty : FieldType), k < 3 → parseFieldDescriptor (cr_9.2.1 k).2.2.1 = some ty → ([.null, .null, .null] : List Value)[k]? = some (defaultValue ty) := by
  refine ⟨rfl, fun j ty hj h => ?_⟩
  have h1 : ∀ k, k < 3 → parseFieldDescriptor (cr_9.2.1 k).2.2.1 = some (cy_9 k) := by decide +kernel
  have h2 : ∀ k, k < 3 → ([.null, .null, .null] : List Value)[k]? = some (defaultValue (cy_9 k)) := by decide +kernel
  cases (h1 j hj).symm.trans h
  exact h2 j hj
theorem ly_10_0 : (Jvm.Cond.laysFinal "TitheHeap$Tray" "TitheHeap$Tray" "row" "[J") ∈ tbig := tin_2 (List.mem_of_getElem? (i := 108) (by decide +kernel)) rfl
theorem ly_10_1 : (Jvm.Cond.lays "TitheHeap$Tray" "TitheHeap$Tray" "sort" "I") ∈ tbig := tin_2 (List.mem_of_getElem? (i := 110) (by decide +kernel)) rfl
theorem ly_10_2 : (Jvm.Cond.lays "TitheHeap$Tray" "TitheHeap$Tray" "size" "I") ∈ tbig := tin_2 (List.mem_of_getElem? (i := 112) (by decide +kernel)) rfl
theorem ly_10_3 : (Jvm.Cond.lays "TitheHeap$Tray" "TitheHeap$Tray" "missing" "Z") ∈ tbig := tin_2 (List.mem_of_getElem? (i := 114) (by decide +kernel)) rfl
theorem cw_10 : ∀ w ∈ u_ws cr_10.1 cr_10.2.1 cr_10.2.2, w ∈ tbig := by
  intro w hw
  obtain ⟨j, hj, rfl⟩ := List.mem_map.mp hw
  have hj := List.mem_range.mp hj
  have hj : j < 4 := hj
  match j, hj with
  | 0, _ => exact ly_10_0
  | 1, _ => exact ly_10_1
  | 2, _ => exact ly_10_2
  | 3, _ => exact ly_10_3
  | j + 4, h => exact absurd h (by omega)
theorem cs_10 : mx_Cs (tB l D b0 ad Hb tau) 10 cr_10 := ⟨rfl, cw_10, (by decide +kernel), cy_10, (by decide +kernel)⟩
theorem fs_10 : ([.null, .int 0, .int 0, .int 0] : List Value).length = 4 ∧ ∀ (k : Nat) (ty : FieldType), k < 4 → parseFieldDescriptor (cr_10.2.1 k).2.2.1 = some ty → ([.null, .int 0, .int 0, .int 0] : List Value)[k]? = some (defaultValue ty) := by
  refine ⟨rfl, fun j ty hj h => ?_⟩
  have h1 : ∀ k, k < 4 → parseFieldDescriptor (cr_10.2.1 k).2.2.1 = some (cy_10 k) := by decide +kernel
  have h2 : ∀ k, k < 4 → ([.null, .int 0, .int 0, .int 0] : List Value)[k]? = some (defaultValue (cy_10 k)) := by decide +kernel
  cases (h1 j hj).symm.trans h
  exact h2 j hj
theorem ly_11_0 : (Jvm.Cond.laysFinal "TitheHeap" "TitheHeap" "tape" "[B") ∈ tbig := tin_2 (List.mem_of_getElem? (i := 153) (by decide +kernel)) rfl
theorem ly_11_1 : (Jvm.Cond.lays "TitheHeap" "TitheHeap" "taped" "I") ∈ tbig := tin_2 (List.mem_of_getElem? (i := 155) (by decide +kernel)) rfl
theorem ly_11_2 : (Jvm.Cond.lays "TitheHeap" "TitheHeap" "faultKind" "I") ∈ tbig := tin_2 (List.mem_of_getElem? (i := 157) (by decide +kernel)) rfl
theorem ly_11_3 : (Jvm.Cond.lays "TitheHeap" "TitheHeap" "faultPlace" "I") ∈ tbig := tin_2 (List.mem_of_getElem? (i := 159) (by decide +kernel)) rfl
theorem ly_11_4 : (Jvm.Cond.laysFinal "TitheHeap" "TitheHeap" "reader" "LTitheHeap$Reader;") ∈ tbig := tin_2 (List.mem_of_getElem? (i := 161) (by decide +kernel)) rfl
theorem ly_11_5 : (Jvm.Cond.laysFinal "TitheHeap" "TitheHeap" "atlas" "LTitheHeap$Atlas;") ∈ tbig := tin_2 (List.mem_of_getElem? (i := 163) (by decide +kernel)) rfl
theorem ly_11_6 : (Jvm.Cond.laysFinal "TitheHeap" "TitheHeap" "mill" "LTitheHeap$Mill;") ∈ tbig := tin_2 (List.mem_of_getElem? (i := 165) (by decide +kernel)) rfl
theorem ly_11_7 : (Jvm.Cond.laysFinal "TitheHeap" "TitheHeap" "going" "LTitheHeap$Going;") ∈ tbig := tin_2 (List.mem_of_getElem? (i := 167) (by decide +kernel)) rfl
theorem ly_11_8 : (Jvm.Cond.laysFinal "TitheHeap" "TitheHeap" "search" "LTitheHeap$Search;") ∈ tbig := tin_2 (List.mem_of_getElem? (i := 169) (by decide +kernel)) rfl
theorem ly_11_9 : (Jvm.Cond.laysFinal "TitheHeap" "TitheHeap" "spread" "LTitheHeap$Spread;") ∈ tbig := tin_2 (List.mem_of_getElem? (i := 171) (by decide +kernel)) rfl
theorem ly_11_10 : (Jvm.Cond.laysFinal "TitheHeap" "TitheHeap" "trays" "[LTitheHeap$Tray;") ∈ tbig := tin_2 (List.mem_of_getElem? (i := 173) (by decide +kernel)) rfl
theorem ly_11_11 : (Jvm.Cond.laysFinal "TitheHeap" "TitheHeap" "images" "[LTitheHeap$Moment;") ∈ tbig := tin_2 (List.mem_of_getElem? (i := 175) (by decide +kernel)) rfl
theorem ly_11_12 : (Jvm.Cond.laysFinal "TitheHeap" "TitheHeap" "now" "LTitheHeap$Moment;") ∈ tbig := tin_2 (List.mem_of_getElem? (i := 177) (by decide +kernel)) rfl
theorem ly_11_13 : (Jvm.Cond.laysFinal "TitheHeap" "TitheHeap" "draft" "LTitheHeap$Moment;") ∈ tbig := tin_2 (List.mem_of_getElem? (i := 179) (by decide +kernel)) rfl
theorem ly_11_14 : (Jvm.Cond.laysFinal "TitheHeap" "TitheHeap" "past" "LTitheHeap$Past;") ∈ tbig := tin_2 (List.mem_of_getElem? (i := 181) (by decide +kernel)) rfl
theorem ly_11_15 : (Jvm.Cond.laysFinal "TitheHeap" "TitheHeap" "sizes" "[I") ∈ tbig := tin_2 (List.mem_of_getElem? (i := 183) (by decide +kernel)) rfl
theorem ly_11_16 : (Jvm.Cond.laysFinal "TitheHeap" "TitheHeap" "outcomes" "[I") ∈ tbig := tin_2 (List.mem_of_getElem? (i := 185) (by decide +kernel)) rfl
theorem cw_11 : ∀ w ∈ u_ws cr_11.1 cr_11.2.1 cr_11.2.2, w ∈ tbig := by
  intro w hw
  obtain ⟨j, hj, rfl⟩ := List.mem_map.mp hw
  have hj := List.mem_range.mp hj
  have hj : j < 17 := hj
  match j, hj with
  | 0, _ => exact ly_11_0
  | 1, _ => exact ly_11_1
  | 2, _ => exact ly_11_2
  | 3, _ => exact ly_11_3
  | 4, _ => exact ly_11_4
  | 5, _ => exact ly_11_5
  | 6, _ => exact ly_11_6
  | 7, _ => exact ly_11_7
  | 8, _ => exact ly_11_8
  | 9, _ => exact ly_11_9
  | 10, _ => exact ly_11_10
  | 11, _ => exact ly_11_11
  | 12, _ => exact ly_11_12
  | 13, _ => exact ly_11_13
  | 14, _ => exact ly_11_14
  | 15, _ => exact ly_11_15
  | 16, _ => exact ly_11_16
  | j + 17, h => exact absurd h (by omega)
theorem cs_11 : mx_Cs (tB l D b0 ad Hb tau) 11 cr_11 := ⟨rfl, cw_11, (by decide +kernel), cy_11, (by decide +kernel)⟩
theorem fs_11 : ([.null, .int 0, .int 0, .int 0, .null, .null, .null, .null, .null, .null, .null, .null, .null, .null, .null, .null, .null] : List Value).length = 17 ∧ ∀ (k : Nat) (ty : FieldType), k < 17 → parseFieldDescriptor (cr_11.2.1 k).2.2.1 = some ty → ([.null, .int 0, .int 0, .int 0, .null, .null, .null, .null, .null, .null, .null, .null, .null, .null, .null, .null, .null] : List Value)[k]? = some (defaultValue ty) := by
  refine ⟨rfl, fun j ty hj h => ?_⟩
  have h1 : ∀ k, k < 17 → parseFieldDescriptor (cr_11.2.1 k).2.2.1 = some (cy_11 k) := by decide +kernel
  have h2 : ∀ k, k < 17 → ([.null, .int 0, .int 0, .int 0, .null, .null, .null, .null, .null, .null, .null, .null, .null, .null, .null, .null, .null] : List Value)[k]? = some (defaultValue (cy_11 k)) := by decide +kernel
  cases (h1 j hj).symm.trans h
  exact h2 j hj
theorem ly_12_0 : (Jvm.Cond.lays "TitheHeapModel" "TitheHeapModel" "thrown" "I") ∈ tbig := tin_6 (List.mem_of_getElem? (i := 8) (by decide +kernel)) rfl
theorem ly_12_1 : (Jvm.Cond.laysFinal "TitheHeapModel" "TitheHeapModel" "all" "[I") ∈ tbig := tin_6 (List.mem_of_getElem? (i := 10) (by decide +kernel)) rfl
theorem ly_12_2 : (Jvm.Cond.laysFinal "TitheHeapModel" "TitheHeapModel" "hasImage" "[Z") ∈ tbig := tin_6 (List.mem_of_getElem? (i := 12) (by decide +kernel)) rfl
theorem ly_12_3 : (Jvm.Cond.laysFinal "TitheHeapModel" "TitheHeapModel" "tape" "[I") ∈ tbig := tin_6 (List.mem_of_getElem? (i := 14) (by decide +kernel)) rfl
theorem ly_12_4 : (Jvm.Cond.laysFinal "TitheHeapModel" "TitheHeapModel" "fresh" "[I") ∈ tbig := tin_6 (List.mem_of_getElem? (i := 16) (by decide +kernel)) rfl
theorem ly_12_5 : (Jvm.Cond.lays "TitheHeapModel" "TitheHeapModel" "taped" "I") ∈ tbig := tin_6 (List.mem_of_getElem? (i := 18) (by decide +kernel)) rfl
theorem ly_12_6 : (Jvm.Cond.lays "TitheHeapModel" "TitheHeapModel" "at" "I") ∈ tbig := tin_6 (List.mem_of_getElem? (i := 20) (by decide +kernel)) rfl
theorem ly_12_7 : (Jvm.Cond.lays "TitheHeapModel" "TitheHeapModel" "behind" "I") ∈ tbig := tin_6 (List.mem_of_getElem? (i := 22) (by decide +kernel)) rfl
theorem ly_12_8 : (Jvm.Cond.lays "TitheHeapModel" "TitheHeapModel" "size" "I") ∈ tbig := tin_6 (List.mem_of_getElem? (i := 24) (by decide +kernel)) rfl
theorem ly_12_9 : (Jvm.Cond.lays "TitheHeapModel" "TitheHeapModel" "kind" "I") ∈ tbig := tin_6 (List.mem_of_getElem? (i := 26) (by decide +kernel)) rfl
theorem ly_12_10 : (Jvm.Cond.lays "TitheHeapModel" "TitheHeapModel" "number" "I") ∈ tbig := tin_6 (List.mem_of_getElem? (i := 28) (by decide +kernel)) rfl
theorem ly_12_11 : (Jvm.Cond.lays "TitheHeapModel" "TitheHeapModel" "wrong" "I") ∈ tbig := tin_6 (List.mem_of_getElem? (i := 30) (by decide +kernel)) rfl
theorem ly_12_12 : (Jvm.Cond.lays "TitheHeapModel" "TitheHeapModel" "wrongAt" "I") ∈ tbig := tin_6 (List.mem_of_getElem? (i := 32) (by decide +kernel)) rfl
theorem ly_12_13 : (Jvm.Cond.lays "TitheHeapModel" "TitheHeapModel" "faultKind" "I") ∈ tbig := tin_6 (List.mem_of_getElem? (i := 34) (by decide +kernel)) rfl
theorem ly_12_14 : (Jvm.Cond.lays "TitheHeapModel" "TitheHeapModel" "faultPlace" "I") ∈ tbig := tin_6 (List.mem_of_getElem? (i := 36) (by decide +kernel)) rfl
theorem ly_12_15 : (Jvm.Cond.laysFinal "TitheHeapModel" "TitheHeapModel" "stand" "[I") ∈ tbig := tin_6 (List.mem_of_getElem? (i := 38) (by decide +kernel)) rfl
theorem ly_12_16 : (Jvm.Cond.laysFinal "TitheHeapModel" "TitheHeapModel" "heaps" "[I") ∈ tbig := tin_6 (List.mem_of_getElem? (i := 40) (by decide +kernel)) rfl
theorem ly_12_17 : (Jvm.Cond.laysFinal "TitheHeapModel" "TitheHeapModel" "part" "[I") ∈ tbig := tin_6 (List.mem_of_getElem? (i := 42) (by decide +kernel)) rfl
theorem ly_12_18 : (Jvm.Cond.lays "TitheHeapModel" "TitheHeapModel" "standMany" "I") ∈ tbig := tin_6 (List.mem_of_getElem? (i := 44) (by decide +kernel)) rfl
theorem ly_12_19 : (Jvm.Cond.laysFinal "TitheHeapModel" "TitheHeapModel" "reckoned" "[I") ∈ tbig := tin_6 (List.mem_of_getElem? (i := 46) (by decide +kernel)) rfl
theorem ly_12_20 : (Jvm.Cond.laysFinal "TitheHeapModel" "TitheHeapModel" "words" "[I") ∈ tbig := tin_6 (List.mem_of_getElem? (i := 48) (by decide +kernel)) rfl
theorem ly_12_21 : (Jvm.Cond.laysFinal "TitheHeapModel" "TitheHeapModel" "was" "[I") ∈ tbig := tin_6 (List.mem_of_getElem? (i := 50) (by decide +kernel)) rfl
theorem ly_12_22 : (Jvm.Cond.lays "TitheHeapModel" "TitheHeapModel" "toldWhy" "I") ∈ tbig := tin_6 (List.mem_of_getElem? (i := 52) (by decide +kernel)) rfl
theorem ly_12_23 : (Jvm.Cond.lays "TitheHeapModel" "TitheHeapModel" "x" "I") ∈ tbig := tin_6 (List.mem_of_getElem? (i := 54) (by decide +kernel)) rfl
theorem ly_12_24 : (Jvm.Cond.laysFinal "TitheHeapModel" "TitheHeapModel" "going" "[I") ∈ tbig := tin_6 (List.mem_of_getElem? (i := 56) (by decide +kernel)) rfl
theorem ly_12_25 : (Jvm.Cond.laysFinal "TitheHeapModel" "TitheHeapModel" "placeAt" "[I") ∈ tbig := tin_6 (List.mem_of_getElem? (i := 58) (by decide +kernel)) rfl
theorem ly_12_26 : (Jvm.Cond.laysFinal "TitheHeapModel" "TitheHeapModel" "line" "[I") ∈ tbig := tin_6 (List.mem_of_getElem? (i := 60) (by decide +kernel)) rfl
theorem ly_12_27 : (Jvm.Cond.laysFinal "TitheHeapModel" "TitheHeapModel" "isAgain1" "[Z") ∈ tbig := tin_6 (List.mem_of_getElem? (i := 62) (by decide +kernel)) rfl
theorem ly_12_28 : (Jvm.Cond.laysFinal "TitheHeapModel" "TitheHeapModel" "can" "[Z") ∈ tbig := tin_6 (List.mem_of_getElem? (i := 64) (by decide +kernel)) rfl
theorem ly_12_29 : (Jvm.Cond.laysFinal "TitheHeapModel" "TitheHeapModel" "canThen" "[Z") ∈ tbig := tin_6 (List.mem_of_getElem? (i := 66) (by decide +kernel)) rfl
theorem ly_12_30 : (Jvm.Cond.lays "TitheHeapModel" "TitheHeapModel" "lineMany" "I") ∈ tbig := tin_6 (List.mem_of_getElem? (i := 68) (by decide +kernel)) rfl
theorem ly_12_31 : (Jvm.Cond.lays "TitheHeapModel" "TitheHeapModel" "tail" "I") ∈ tbig := tin_6 (List.mem_of_getElem? (i := 70) (by decide +kernel)) rfl
theorem ly_12_32 : (Jvm.Cond.laysFinal "TitheHeapModel" "TitheHeapModel" "then" "[I") ∈ tbig := tin_6 (List.mem_of_getElem? (i := 72) (by decide +kernel)) rfl
theorem ly_12_33 : (Jvm.Cond.laysFinal "TitheHeapModel" "TitheHeapModel" "far" "[I") ∈ tbig := tin_6 (List.mem_of_getElem? (i := 74) (by decide +kernel)) rfl
theorem ly_12_34 : (Jvm.Cond.laysFinal "TitheHeapModel" "TitheHeapModel" "farOther" "[I") ∈ tbig := tin_6 (List.mem_of_getElem? (i := 76) (by decide +kernel)) rfl
theorem ly_12_35 : (Jvm.Cond.laysFinal "TitheHeapModel" "TitheHeapModel" "many" "[J") ∈ tbig := tin_6 (List.mem_of_getElem? (i := 78) (by decide +kernel)) rfl
theorem ly_12_36 : (Jvm.Cond.laysFinal "TitheHeapModel" "TitheHeapModel" "manyThen" "[J") ∈ tbig := tin_6 (List.mem_of_getElem? (i := 80) (by decide +kernel)) rfl
theorem ly_12_37 : (Jvm.Cond.laysFinal "TitheHeapModel" "TitheHeapModel" "on" "[J") ∈ tbig := tin_6 (List.mem_of_getElem? (i := 82) (by decide +kernel)) rfl
theorem ly_12_38 : (Jvm.Cond.laysFinal "TitheHeapModel" "TitheHeapModel" "often" "[I") ∈ tbig := tin_6 (List.mem_of_getElem? (i := 84) (by decide +kernel)) rfl
theorem ly_12_39 : (Jvm.Cond.laysFinal "TitheHeapModel" "TitheHeapModel" "rowSort" "[I") ∈ tbig := tin_6 (List.mem_of_getElem? (i := 86) (by decide +kernel)) rfl
theorem ly_12_40 : (Jvm.Cond.laysFinal "TitheHeapModel" "TitheHeapModel" "rowMany" "[I") ∈ tbig := tin_6 (List.mem_of_getElem? (i := 88) (by decide +kernel)) rfl
theorem ly_12_41 : (Jvm.Cond.laysFinal "TitheHeapModel" "TitheHeapModel" "numbers" "[J") ∈ tbig := tin_6 (List.mem_of_getElem? (i := 90) (by decide +kernel)) rfl
theorem cw_12 : ∀ w ∈ u_ws cr_12.1 cr_12.2.1 cr_12.2.2, w ∈ tbig := by
  intro w hw
  obtain ⟨j, hj, rfl⟩ := List.mem_map.mp hw
  have hj := List.mem_range.mp hj
  have hj : j < 42 := hj
  match j, hj with
  | 0, _ => exact ly_12_0
  | 1, _ => exact ly_12_1
  | 2, _ => exact ly_12_2
  | 3, _ => exact ly_12_3
  | 4, _ => exact ly_12_4
  | 5, _ => exact ly_12_5
  | 6, _ => exact ly_12_6
  | 7, _ => exact ly_12_7
  | 8, _ => exact ly_12_8
  | 9, _ => exact ly_12_9
  | 10, _ => exact ly_12_10
  | 11, _ => exact ly_12_11
  | 12, _ => exact ly_12_12
  | 13, _ => exact ly_12_13
  | 14, _ => exact ly_12_14
  | 15, _ => exact ly_12_15
  | 16, _ => exact ly_12_16
  | 17, _ => exact ly_12_17
  | 18, _ => exact ly_12_18
  | 19, _ => exact ly_12_19
  | 20, _ => exact ly_12_20
  | 21, _ => exact ly_12_21
  | 22, _ => exact ly_12_22
  | 23, _ => exact ly_12_23
  | 24, _ => exact ly_12_24
  | 25, _ => exact ly_12_25
  | 26, _ => exact ly_12_26
  | 27, _ => exact ly_12_27
  | 28, _ => exact ly_12_28
  | 29, _ => exact ly_12_29
  | 30, _ => exact ly_12_30
  | 31, _ => exact ly_12_31
  | 32, _ => exact ly_12_32
  | 33, _ => exact ly_12_33
  | 34, _ => exact ly_12_34
  | 35, _ => exact ly_12_35
  | 36, _ => exact ly_12_36
  | 37, _ => exact ly_12_37
  | 38, _ => exact ly_12_38
  | 39, _ => exact ly_12_39
  | 40, _ => exact ly_12_40
  | 41, _ => exact ly_12_41
  | j + 42, h => exact absurd h (by omega)
theorem cs_12 : mx_Cs (tB l D b0 ad Hb tau) 12 cr_12 := ⟨rfl, cw_12, (by decide +kernel), cy_12, (by decide +kernel)⟩
theorem fs_12 : ([.int 0, .null, .null, .null, .null, .int 0, .int 0, .int 0, .int 0, .int 0, .int 0, .int 0, .int 0, .int 0, .int 0, .null, .null, .null, .int 0, .null, .null, .null, .int 0, .int 0, .null, .null, .null, .null, .null, .null, .int 0, .int 0, .null, .null, .null, .null, .null, .null, .null, .null, .null, .null] : List Value).length = 42 ∧ ∀ (k : Nat) (ty : FieldType), k < 42 → parseFieldDescriptor (cr_12.2.1 k).2.2.1 = some ty → ([.int 0, .null, .null, .null, .null, .int 0, .int 0, .int 0, .int 0, .int 0, .int 0, .int 0, .int 0, .int 0, .int 0, .null, .null, .null, .int 0, .null, .null, .null, .int 0, .int 0, .null, .null, .null, .null, .null, .null, .int 0, .int 0, .null, .null, .null, .null, .null, .null, .null, .null, .null, .null] : List Value)[k]? = some (defaultValue ty) := by
  refine ⟨rfl, fun j ty hj h => ?_⟩
  have h1 : ∀ k, k < 42 → parseFieldDescriptor (cr_12.2.1 k).2.2.1 = some (cy_12 k) := by decide +kernel
  have h2 : ∀ k, k < 42 → ([.int 0, .null, .null, .null, .null, .int 0, .int 0, .int 0, .int 0, .int 0, .int 0, .int 0, .int 0, .int 0, .int 0, .null, .null, .null, .int 0, .null, .null, .null, .int 0, .int 0, .null, .null, .null, .null, .null, .null, .int 0, .int 0, .null, .null, .null, .null, .null, .null, .null, .null, .null, .null] : List Value)[k]? = some (defaultValue (cy_12 k)) := by decide +kernel
  cases (h1 j hj).symm.trans h
  exact h2 j hj
theorem mc_1 : Cond.code mn_1 prog_2_method_1_code 4 (Option.none : Option Jvm.ClassFile.FieldType) ∈ tbig := tin_1 (List.mem_of_getElem? (i := 98) rfl) rfl
theorem me_1 : mx_Me (tB l D b0 ad Hb tau) 1 mn_1 prog_2_method_1_code 4 (Option.none : Option Jvm.ClassFile.FieldType) 0 := mx_MeOf (tab := tb_1) tbig_good (by decide) rfl mc_1 (tin_1 (List.mem_of_getElem? (i := 4) (by decide +kernel)) rfl) ⟨by decide +kernel, by decide +kernel, by decide +kernel⟩ (by decide)
theorem mc_2 : Cond.code mn_2 prog_2_method_2_code 3 (Option.some Jvm.ClassFile.FieldType.int) ∈ tbig := tin_1 (List.mem_of_getElem? (i := 103) rfl) rfl
theorem me_2 : mx_Me (tB l D b0 ad Hb tau) 2 mn_2 prog_2_method_2_code 3 (Option.some Jvm.ClassFile.FieldType.int) 2 := mx_MeOf (tab := tb_2) tbig_good (by decide) rfl mc_2 (tin_1 (List.mem_of_getElem? (i := 4) (by decide +kernel)) rfl) ⟨by decide +kernel, by decide +kernel, by decide +kernel⟩ (by decide)
theorem mc_3 : Cond.code mn_3 prog_2_method_3_code 5 (Option.none : Option Jvm.ClassFile.FieldType) ∈ tbig := tin_2 (List.mem_of_getElem? (i := 124) rfl) rfl
theorem me_3 : mx_Me (tB l D b0 ad Hb tau) 3 mn_3 prog_2_method_3_code 5 (Option.none : Option Jvm.ClassFile.FieldType) 1 := mx_MeOf (tab := tb_3) tbig_good (by decide) rfl mc_3 (tin_1 (List.mem_of_getElem? (i := 4) (by decide +kernel)) rfl) ⟨by decide +kernel, by decide +kernel, by decide +kernel⟩ (by decide)
theorem mc_4 : Cond.code mn_4 prog_2_method_4_code 5 (Option.some Jvm.ClassFile.FieldType.int) ∈ tbig := tin_2 (List.mem_of_getElem? (i := 128) rfl) rfl
theorem me_4 : mx_Me (tB l D b0 ad Hb tau) 4 mn_4 prog_2_method_4_code 5 (Option.some Jvm.ClassFile.FieldType.int) 1 := mx_MeOf (tab := tb_4) tbig_good (by decide) rfl mc_4 (tin_1 (List.mem_of_getElem? (i := 4) (by decide +kernel)) rfl) ⟨by decide +kernel, by decide +kernel, by decide +kernel⟩ (by decide)
theorem mc_5 : Cond.code mn_5 prog_2_method_5_code 2 (Option.some Jvm.ClassFile.FieldType.int) ∈ tbig := tin_3 (List.mem_of_getElem? (i := 191) rfl) rfl
theorem me_5 : mx_Me (tB l D b0 ad Hb tau) 5 mn_5 prog_2_method_5_code 2 (Option.some Jvm.ClassFile.FieldType.int) 1 := mx_MeOf (tab := tb_5) tbig_good (by decide) rfl mc_5 (tin_1 (List.mem_of_getElem? (i := 4) (by decide +kernel)) rfl) ⟨by decide +kernel, by decide +kernel, by decide +kernel⟩ (by decide)
theorem mc_6 : Cond.code mn_6 prog_2_method_6_code 3 (Option.some Jvm.ClassFile.FieldType.int) ∈ tbig := tin_3 (List.mem_of_getElem? (i := 195) rfl) rfl
theorem me_6 : mx_Me (tB l D b0 ad Hb tau) 6 mn_6 prog_2_method_6_code 3 (Option.some Jvm.ClassFile.FieldType.int) 2 := mx_MeOf (tab := tb_6) tbig_good (by decide) rfl mc_6 (tin_1 (List.mem_of_getElem? (i := 4) (by decide +kernel)) rfl) ⟨by decide +kernel, by decide +kernel, by decide +kernel⟩ (by decide)
theorem mc_7 : Cond.code mn_7 prog_2_method_7_code 5 (Option.some Jvm.ClassFile.FieldType.int) ∈ tbig := tin_3 (List.mem_of_getElem? (i := 224) rfl) rfl
theorem me_7 : mx_Me (tB l D b0 ad Hb tau) 7 mn_7 prog_2_method_7_code 5 (Option.some Jvm.ClassFile.FieldType.int) 2 := mx_MeOf (tab := tb_7) tbig_good (by decide) rfl mc_7 (tin_1 (List.mem_of_getElem? (i := 4) (by decide +kernel)) rfl) ⟨by decide +kernel, by decide +kernel, by decide +kernel⟩ (by decide)
theorem mc_8 : Cond.code mn_8 prog_2_method_8_code 5 (Option.none : Option Jvm.ClassFile.FieldType) ∈ tbig := tin_4 (List.mem_of_getElem? (i := 38) rfl) rfl
theorem me_8 : mx_Me (tB l D b0 ad Hb tau) 8 mn_8 prog_2_method_8_code 5 (Option.none : Option Jvm.ClassFile.FieldType) 2 := mx_MeOf (tab := tb_8) tbig_good (by decide) rfl mc_8 (tin_1 (List.mem_of_getElem? (i := 4) (by decide +kernel)) rfl) ⟨by decide +kernel, by decide +kernel, by decide +kernel⟩ (by decide)
theorem mc_9 : Cond.code mn_9 prog_2_method_9_code 6 (Option.some Jvm.ClassFile.FieldType.int) ∈ tbig := tin_3 (List.mem_of_getElem? (i := 179) rfl) rfl
theorem me_9 : mx_Me (tB l D b0 ad Hb tau) 9 mn_9 prog_2_method_9_code 6 (Option.some Jvm.ClassFile.FieldType.int) 1 := mx_MeOf (tab := tb_9) tbig_good (by decide) rfl mc_9 (tin_1 (List.mem_of_getElem? (i := 4) (by decide +kernel)) rfl) ⟨by decide +kernel, by decide +kernel, by decide +kernel⟩ (by decide)
theorem mc_10 : Cond.code mn_10 prog_2_method_10_code 5 (Option.some Jvm.ClassFile.FieldType.boolean) ∈ tbig := tin_5 (List.mem_of_getElem? (i := 20) rfl) rfl
theorem me_10 : mx_Me (tB l D b0 ad Hb tau) 10 mn_10 prog_2_method_10_code 5 (Option.some Jvm.ClassFile.FieldType.boolean) 2 := mx_MeOf (tab := tb_10) tbig_good (by decide) rfl mc_10 (tin_1 (List.mem_of_getElem? (i := 4) (by decide +kernel)) rfl) ⟨by decide +kernel, by decide +kernel, by decide +kernel⟩ (by decide)
theorem mc_11 : Cond.code mn_11 prog_3_method_1_code 2 (Option.none : Option Jvm.ClassFile.FieldType) ∈ tbig := tin_4 (List.mem_of_getElem? (i := 97) rfl) rfl
theorem me_11 : mx_Me (tB l D b0 ad Hb tau) 11 mn_11 prog_3_method_1_code 2 (Option.none : Option Jvm.ClassFile.FieldType) 1 := mx_MeOf (tab := tb_11) tbig_good (by decide) rfl mc_11 (tin_1 (List.mem_of_getElem? (i := 21) (by decide +kernel)) rfl) ⟨by decide +kernel, by decide +kernel, by decide +kernel⟩ (by decide)
theorem mc_12 : Cond.code mn_12 prog_3_method_2_code 2 (Option.some Jvm.ClassFile.FieldType.int) ∈ tbig := tin_4 (List.mem_of_getElem? (i := 110) rfl) rfl
theorem me_12 : mx_Me (tB l D b0 ad Hb tau) 12 mn_12 prog_3_method_2_code 2 (Option.some Jvm.ClassFile.FieldType.int) 1 := mx_MeOf (tab := tb_12) tbig_good (by decide) rfl mc_12 (tin_1 (List.mem_of_getElem? (i := 21) (by decide +kernel)) rfl) ⟨by decide +kernel, by decide +kernel, by decide +kernel⟩ (by decide)
theorem mc_13 : Cond.code mn_13 prog_3_method_3_code 3 (Option.some Jvm.ClassFile.FieldType.int) ∈ tbig := tin_4 (List.mem_of_getElem? (i := 106) rfl) rfl
theorem me_13 : mx_Me (tB l D b0 ad Hb tau) 13 mn_13 prog_3_method_3_code 3 (Option.some Jvm.ClassFile.FieldType.int) 0 := mx_MeOf (tab := tb_13) tbig_good (by decide) rfl mc_13 (tin_1 (List.mem_of_getElem? (i := 21) (by decide +kernel)) rfl) ⟨by decide +kernel, by decide +kernel, by decide +kernel⟩ (by decide)
theorem mc_14 : Cond.code mn_14 prog_4_method_1_code 3 (Option.none : Option Jvm.ClassFile.FieldType) ∈ tbig := tin_1 (List.mem_of_getElem? (i := 186) rfl) rfl
theorem me_14 : mx_Me (tB l D b0 ad Hb tau) 14 mn_14 prog_4_method_1_code 3 (Option.none : Option Jvm.ClassFile.FieldType) 2 := mx_MeOf (tab := tb_14) tbig_good (by decide) rfl mc_14 (tin_1 (List.mem_of_getElem? (i := 6) (by decide +kernel)) rfl) ⟨by decide +kernel, by decide +kernel, by decide +kernel⟩ (by decide)
theorem mc_15 : Cond.code mn_15 prog_4_method_2_code 4 (Option.none : Option Jvm.ClassFile.FieldType) ∈ tbig := tin_4 (List.mem_of_getElem? (i := 120) rfl) rfl
theorem me_15 : mx_Me (tB l D b0 ad Hb tau) 15 mn_15 prog_4_method_2_code 4 (Option.none : Option Jvm.ClassFile.FieldType) 1 := mx_MeOf (tab := tb_15) tbig_good (by decide) rfl mc_15 (tin_1 (List.mem_of_getElem? (i := 6) (by decide +kernel)) rfl) ⟨by decide +kernel, by decide +kernel, by decide +kernel⟩ (by decide)
theorem mc_16 : Cond.code mn_16 prog_4_method_3_code 5 (Option.some Jvm.ClassFile.FieldType.int) ∈ tbig := tin_4 (List.mem_of_getElem? (i := 131) rfl) rfl
theorem me_16 : mx_Me (tB l D b0 ad Hb tau) 16 mn_16 prog_4_method_3_code 5 (Option.some Jvm.ClassFile.FieldType.int) 1 := mx_MeOf (tab := tb_16) tbig_good (by decide) rfl mc_16 (tin_1 (List.mem_of_getElem? (i := 6) (by decide +kernel)) rfl) ⟨by decide +kernel, by decide +kernel, by decide +kernel⟩ (by decide)
theorem mc_17 : Cond.code mn_17 prog_4_method_4_code 7 (Option.some Jvm.ClassFile.FieldType.int) ∈ tbig := tin_4 (List.mem_of_getElem? (i := 164) rfl) rfl
theorem me_17 : mx_Me (tB l D b0 ad Hb tau) 17 mn_17 prog_4_method_4_code 7 (Option.some Jvm.ClassFile.FieldType.int) 2 := mx_MeOf (tab := tb_17) tbig_good (by decide) rfl mc_17 (tin_1 (List.mem_of_getElem? (i := 6) (by decide +kernel)) rfl) ⟨by decide +kernel, by decide +kernel, by decide +kernel⟩ (by decide)
theorem mc_18 : Cond.code mn_18 prog_4_method_5_code 5 (Option.none : Option Jvm.ClassFile.FieldType) ∈ tbig := tin_4 (List.mem_of_getElem? (i := 144) rfl) rfl
theorem me_18 : mx_Me (tB l D b0 ad Hb tau) 18 mn_18 prog_4_method_5_code 5 (Option.none : Option Jvm.ClassFile.FieldType) 0 := mx_MeOf (tab := tb_18) tbig_good (by decide) rfl mc_18 (tin_1 (List.mem_of_getElem? (i := 6) (by decide +kernel)) rfl) ⟨by decide +kernel, by decide +kernel, by decide +kernel⟩ (by decide)
theorem mc_19 : Cond.code mn_19 prog_4_method_6_code 4 (Option.some Jvm.ClassFile.FieldType.int) ∈ tbig := tin_4 (List.mem_of_getElem? (i := 148) rfl) rfl
theorem me_19 : mx_Me (tB l D b0 ad Hb tau) 19 mn_19 prog_4_method_6_code 4 (Option.some Jvm.ClassFile.FieldType.int) 0 := mx_MeOf (tab := tb_19) tbig_good (by decide) rfl mc_19 (tin_1 (List.mem_of_getElem? (i := 6) (by decide +kernel)) rfl) ⟨by decide +kernel, by decide +kernel, by decide +kernel⟩ (by decide)
theorem mc_20 : Cond.code mn_20 prog_4_method_7_code 4 (Option.none : Option Jvm.ClassFile.FieldType) ∈ tbig := tin_4 (List.mem_of_getElem? (i := 152) rfl) rfl
theorem me_20 : mx_Me (tB l D b0 ad Hb tau) 20 mn_20 prog_4_method_7_code 4 (Option.none : Option Jvm.ClassFile.FieldType) 0 := mx_MeOf (tab := tb_20) tbig_good (by decide) rfl mc_20 (tin_1 (List.mem_of_getElem? (i := 6) (by decide +kernel)) rfl) ⟨by decide +kernel, by decide +kernel, by decide +kernel⟩ (by decide)
theorem mc_21 : Cond.code mn_21 prog_4_method_8_code 4 (Option.some Jvm.ClassFile.FieldType.int) ∈ tbig := tin_4 (List.mem_of_getElem? (i := 156) rfl) rfl
theorem me_21 : mx_Me (tB l D b0 ad Hb tau) 21 mn_21 prog_4_method_8_code 4 (Option.some Jvm.ClassFile.FieldType.int) 1 := mx_MeOf (tab := tb_21) tbig_good (by decide) rfl mc_21 (tin_1 (List.mem_of_getElem? (i := 6) (by decide +kernel)) rfl) ⟨by decide +kernel, by decide +kernel, by decide +kernel⟩ (by decide)
theorem mc_22 : Cond.code mn_22 prog_5_method_1_code 4 (Option.none : Option Jvm.ClassFile.FieldType) ∈ tbig := tin_1 (List.mem_of_getElem? (i := 139) rfl) rfl
theorem me_22 : mx_Me (tB l D b0 ad Hb tau) 22 mn_22 prog_5_method_1_code 4 (Option.none : Option Jvm.ClassFile.FieldType) 3 := mx_MeOf (tab := tb_22) tbig_good (by decide) rfl mc_22 (tin_1 (List.mem_of_getElem? (i := 3) (by decide +kernel)) rfl) ⟨by decide +kernel, by decide +kernel, by decide +kernel⟩ (by decide)
theorem mc_23 : Cond.code mn_23 prog_6_method_1_code 2 (Option.none : Option Jvm.ClassFile.FieldType) ∈ tbig := tin_1 (List.mem_of_getElem? (i := 132) rfl) rfl
theorem me_23 : mx_Me (tB l D b0 ad Hb tau) 23 mn_23 prog_6_method_1_code 2 (Option.none : Option Jvm.ClassFile.FieldType) 1 := mx_MeOf (tab := tb_23) tbig_good (by decide) rfl mc_23 (tin_1 (List.mem_of_getElem? (i := 5) (by decide +kernel)) rfl) ⟨by decide +kernel, by decide +kernel, by decide +kernel⟩ (by decide)
theorem mc_24 : Cond.code mn_24 prog_6_method_2_code 4 (Option.none : Option Jvm.ClassFile.FieldType) ∈ tbig := tin_2 (List.mem_of_getElem? (i := 135) rfl) rfl
theorem me_24 : mx_Me (tB l D b0 ad Hb tau) 24 mn_24 prog_6_method_2_code 4 (Option.none : Option Jvm.ClassFile.FieldType) 3 := mx_MeOf (tab := tb_24) tbig_good (by decide) rfl mc_24 (tin_1 (List.mem_of_getElem? (i := 5) (by decide +kernel)) rfl) ⟨by decide +kernel, by decide +kernel, by decide +kernel⟩ (by decide)
theorem mc_25 : Cond.code mn_25 prog_6_method_3_code 2 (Option.none : Option Jvm.ClassFile.FieldType) ∈ tbig := tin_4 (List.mem_of_getElem? (i := 9) rfl) rfl
theorem me_25 : mx_Me (tB l D b0 ad Hb tau) 25 mn_25 prog_6_method_3_code 2 (Option.none : Option Jvm.ClassFile.FieldType) 1 := mx_MeOf (tab := tb_25) tbig_good (by decide) rfl mc_25 (tin_1 (List.mem_of_getElem? (i := 5) (by decide +kernel)) rfl) ⟨by decide +kernel, by decide +kernel, by decide +kernel⟩ (by decide)
theorem mc_26 : Cond.code mn_26 prog_6_method_4_code 6 (Option.some Jvm.ClassFile.FieldType.int) ∈ tbig := tin_3 (List.mem_of_getElem? (i := 220) rfl) rfl
theorem me_26 : mx_Me (tB l D b0 ad Hb tau) 26 mn_26 prog_6_method_4_code 6 (Option.some Jvm.ClassFile.FieldType.int) 2 := mx_MeOf (tab := tb_26) tbig_good (by decide) rfl mc_26 (tin_1 (List.mem_of_getElem? (i := 5) (by decide +kernel)) rfl) ⟨by decide +kernel, by decide +kernel, by decide +kernel⟩ (by decide)
theorem mc_27 : Cond.code mn_27 prog_6_method_5_code 2 (Option.some Jvm.ClassFile.FieldType.int) ∈ tbig := tin_4 (List.mem_of_getElem? (i := 125) rfl) rfl
theorem me_27 : mx_Me (tB l D b0 ad Hb tau) 27 mn_27 prog_6_method_5_code 2 (Option.some Jvm.ClassFile.FieldType.int) 1 := mx_MeOf (tab := tb_27) tbig_good (by decide) rfl mc_27 (tin_1 (List.mem_of_getElem? (i := 5) (by decide +kernel)) rfl) ⟨by decide +kernel, by decide +kernel, by decide +kernel⟩ (by decide)
theorem mc_28 : Cond.code mn_28 prog_6_method_6_code 4 (Option.some Jvm.ClassFile.FieldType.int) ∈ tbig := tin_5 (List.mem_of_getElem? (i := 137) rfl) rfl
theorem me_28 : mx_Me (tB l D b0 ad Hb tau) 28 mn_28 prog_6_method_6_code 4 (Option.some Jvm.ClassFile.FieldType.int) 2 := mx_MeOf (tab := tb_28) tbig_good (by decide) rfl mc_28 (tin_1 (List.mem_of_getElem? (i := 5) (by decide +kernel)) rfl) ⟨by decide +kernel, by decide +kernel, by decide +kernel⟩ (by decide)
theorem mc_29 : Cond.code mn_29 prog_6_method_7_code 8 (Option.some Jvm.ClassFile.FieldType.int) ∈ tbig := tin_3 (List.mem_of_getElem? (i := 228) rfl) rfl
theorem me_29 : mx_Me (tB l D b0 ad Hb tau) 29 mn_29 prog_6_method_7_code 8 (Option.some Jvm.ClassFile.FieldType.int) 2 := mx_MeOf (tab := tb_29) tbig_good (by decide) rfl mc_29 (tin_1 (List.mem_of_getElem? (i := 5) (by decide +kernel)) rfl) ⟨by decide +kernel, by decide +kernel, by decide +kernel⟩ (by decide)
theorem mc_30 : Cond.code mn_30 prog_6_method_8_code 6 (Option.some Jvm.ClassFile.FieldType.int) ∈ tbig := tin_3 (List.mem_of_getElem? (i := 204) rfl) rfl
theorem me_30 : mx_Me (tB l D b0 ad Hb tau) 30 mn_30 prog_6_method_8_code 6 (Option.some Jvm.ClassFile.FieldType.int) 3 := mx_MeOf (tab := tb_30) tbig_good (by decide) rfl mc_30 (tin_1 (List.mem_of_getElem? (i := 5) (by decide +kernel)) rfl) ⟨by decide +kernel, by decide +kernel, by decide +kernel⟩ (by decide)
theorem mc_31 : Cond.code mn_31 prog_6_method_9_code 10 (Option.some Jvm.ClassFile.FieldType.int) ∈ tbig := tin_3 (List.mem_of_getElem? (i := 208) rfl) rfl
theorem me_31 : mx_Me (tB l D b0 ad Hb tau) 31 mn_31 prog_6_method_9_code 10 (Option.some Jvm.ClassFile.FieldType.int) 1 := mx_MeOf (tab := tb_31) tbig_good (by decide) rfl mc_31 (tin_1 (List.mem_of_getElem? (i := 5) (by decide +kernel)) rfl) ⟨by decide +kernel, by decide +kernel, by decide +kernel⟩ (by decide)
theorem mc_32 : Cond.code mn_32 prog_7_method_1_code 1 (Option.none : Option Jvm.ClassFile.FieldType) ∈ tbig := tin_2 (List.mem_of_getElem? (i := 50) rfl) rfl
theorem me_32 : mx_Me (tB l D b0 ad Hb tau) 32 mn_32 prog_7_method_1_code 1 (Option.none : Option Jvm.ClassFile.FieldType) 0 := mx_MeOf (tab := tb_32) tbig_good (by decide) rfl mc_32 (tin_1 (List.mem_of_getElem? (i := 9) (by decide +kernel)) rfl) ⟨by decide +kernel, by decide +kernel, by decide +kernel⟩ (by decide)
theorem mc_33 : Cond.code mn_33 prog_7_method_2_code 2 (Option.none : Option Jvm.ClassFile.FieldType) ∈ tbig := tin_4 (List.mem_of_getElem? (i := 1) rfl) rfl
theorem me_33 : mx_Me (tB l D b0 ad Hb tau) 33 mn_33 prog_7_method_2_code 2 (Option.none : Option Jvm.ClassFile.FieldType) 1 := mx_MeOf (tab := tb_33) tbig_good (by decide) rfl mc_33 (tin_1 (List.mem_of_getElem? (i := 9) (by decide +kernel)) rfl) ⟨by decide +kernel, by decide +kernel, by decide +kernel⟩ (by decide)
theorem mc_34 : Cond.code mn_34 prog_8_method_1_code 1 (Option.none : Option Jvm.ClassFile.FieldType) ∈ tbig := tin_2 (List.mem_of_getElem? (i := 87) rfl) rfl
theorem me_34 : mx_Me (tB l D b0 ad Hb tau) 34 mn_34 prog_8_method_1_code 1 (Option.none : Option Jvm.ClassFile.FieldType) 0 := mx_MeOf (tab := tb_34) tbig_good (by decide) rfl mc_34 (tin_1 (List.mem_of_getElem? (i := 10) (by decide +kernel)) rfl) ⟨by decide +kernel, by decide +kernel, by decide +kernel⟩ (by decide)
theorem mc_35 : Cond.code mn_35 prog_8_method_2_code 2 (Option.none : Option Jvm.ClassFile.FieldType) ∈ tbig := tin_4 (List.mem_of_getElem? (i := 21) rfl) rfl
theorem me_35 : mx_Me (tB l D b0 ad Hb tau) 35 mn_35 prog_8_method_2_code 2 (Option.none : Option Jvm.ClassFile.FieldType) 1 := mx_MeOf (tab := tb_35) tbig_good (by decide) rfl mc_35 (tin_1 (List.mem_of_getElem? (i := 10) (by decide +kernel)) rfl) ⟨by decide +kernel, by decide +kernel, by decide +kernel⟩ (by decide)
theorem mc_36 : Cond.code mn_36 prog_8_method_3_code 3 (Option.none : Option Jvm.ClassFile.FieldType) ∈ tbig := tin_4 (List.mem_of_getElem? (i := 63) rfl) rfl
theorem me_36 : mx_Me (tB l D b0 ad Hb tau) 36 mn_36 prog_8_method_3_code 3 (Option.none : Option Jvm.ClassFile.FieldType) 2 := mx_MeOf (tab := tb_36) tbig_good (by decide) rfl mc_36 (tin_1 (List.mem_of_getElem? (i := 10) (by decide +kernel)) rfl) ⟨by decide +kernel, by decide +kernel, by decide +kernel⟩ (by decide)
theorem mc_37 : Cond.code mn_37 prog_9_method_1_code 1 (Option.none : Option Jvm.ClassFile.FieldType) ∈ tbig := tin_1 (List.mem_of_getElem? (i := 34) rfl) rfl
theorem me_37 : mx_Me (tB l D b0 ad Hb tau) 37 mn_37 prog_9_method_1_code 1 (Option.none : Option Jvm.ClassFile.FieldType) 0 := mx_MeOf (tab := tb_37) tbig_good (by decide) rfl mc_37 (tin_1 (List.mem_of_getElem? (i := 2) (by decide +kernel)) rfl) ⟨by decide +kernel, by decide +kernel, by decide +kernel⟩ (by decide)
theorem mc_38 : Cond.code mn_38 prog_9_method_2_code 4 (Option.none : Option Jvm.ClassFile.FieldType) ∈ tbig := tin_2 (List.mem_of_getElem? (i := 203) rfl) rfl
theorem me_38 : mx_Me (tB l D b0 ad Hb tau) 38 mn_38 prog_9_method_2_code 4 (Option.none : Option Jvm.ClassFile.FieldType) 2 := mx_MeOf (tab := tb_38) tbig_good (by decide) rfl mc_38 (tin_1 (List.mem_of_getElem? (i := 2) (by decide +kernel)) rfl) ⟨by decide +kernel, by decide +kernel, by decide +kernel⟩ (by decide)
theorem mc_39 : Cond.code mn_39 prog_9_method_3_code 1 (Option.some (Jvm.ClassFile.FieldType.object "TitheHeap$Laws")) ∈ tbig := tin_3 (List.mem_of_getElem? (i := 173) rfl) rfl
theorem me_39 : mx_Me (tB l D b0 ad Hb tau) 39 mn_39 prog_9_method_3_code 1 (Option.some (Jvm.ClassFile.FieldType.object "TitheHeap$Laws")) 0 := mx_MeOf (tab := tb_39) tbig_good (by decide) rfl mc_39 (tin_1 (List.mem_of_getElem? (i := 2) (by decide +kernel)) rfl) ⟨by decide +kernel, by decide +kernel, by decide +kernel⟩ (by decide)
theorem mc_40 : Cond.code mn_40 prog_9_method_4_code 2 (Option.none : Option Jvm.ClassFile.FieldType) ∈ tbig := tin_3 (List.mem_of_getElem? (i := 107) rfl) rfl
theorem me_40 : mx_Me (tB l D b0 ad Hb tau) 40 mn_40 prog_9_method_4_code 2 (Option.none : Option Jvm.ClassFile.FieldType) 0 := mx_MeOf (tab := tb_40) tbig_good (by decide) rfl mc_40 (tin_1 (List.mem_of_getElem? (i := 2) (by decide +kernel)) rfl) ⟨by decide +kernel, by decide +kernel, by decide +kernel⟩ (by decide)
theorem mc_41 : Cond.code mn_41 prog_9_method_5_code 1 (Option.none : Option Jvm.ClassFile.FieldType) ∈ tbig := tin_3 (List.mem_of_getElem? (i := 111) rfl) rfl
theorem me_41 : mx_Me (tB l D b0 ad Hb tau) 41 mn_41 prog_9_method_5_code 1 (Option.none : Option Jvm.ClassFile.FieldType) 0 := mx_MeOf (tab := tb_41) tbig_good (by decide) rfl mc_41 (tin_1 (List.mem_of_getElem? (i := 2) (by decide +kernel)) rfl) ⟨by decide +kernel, by decide +kernel, by decide +kernel⟩ (by decide)
theorem mc_42 : Cond.code mn_42 prog_9_method_6_code 4 (Option.none : Option Jvm.ClassFile.FieldType) ∈ tbig := tin_3 (List.mem_of_getElem? (i := 115) rfl) rfl
theorem me_42 : mx_Me (tB l D b0 ad Hb tau) 42 mn_42 prog_9_method_6_code 4 (Option.none : Option Jvm.ClassFile.FieldType) 1 := mx_MeOf (tab := tb_42) tbig_good (by decide) rfl mc_42 (tin_1 (List.mem_of_getElem? (i := 2) (by decide +kernel)) rfl) ⟨by decide +kernel, by decide +kernel, by decide +kernel⟩ (by decide)
theorem mc_43 : Cond.code mn_43 prog_9_method_7_code 3 (Option.none : Option Jvm.ClassFile.FieldType) ∈ tbig := tin_3 (List.mem_of_getElem? (i := 119) rfl) rfl
theorem me_43 : mx_Me (tB l D b0 ad Hb tau) 43 mn_43 prog_9_method_7_code 3 (Option.none : Option Jvm.ClassFile.FieldType) 1 := mx_MeOf (tab := tb_43) tbig_good (by decide) rfl mc_43 (tin_1 (List.mem_of_getElem? (i := 2) (by decide +kernel)) rfl) ⟨by decide +kernel, by decide +kernel, by decide +kernel⟩ (by decide)
theorem mc_44 : Cond.code mn_44 prog_9_method_8_code 2 (Option.none : Option Jvm.ClassFile.FieldType) ∈ tbig := tin_3 (List.mem_of_getElem? (i := 123) rfl) rfl
theorem me_44 : mx_Me (tB l D b0 ad Hb tau) 44 mn_44 prog_9_method_8_code 2 (Option.none : Option Jvm.ClassFile.FieldType) 1 := mx_MeOf (tab := tb_44) tbig_good (by decide) rfl mc_44 (tin_1 (List.mem_of_getElem? (i := 2) (by decide +kernel)) rfl) ⟨by decide +kernel, by decide +kernel, by decide +kernel⟩ (by decide)
theorem mc_45 : Cond.code mn_45 prog_9_method_9_code 2 (Option.none : Option Jvm.ClassFile.FieldType) ∈ tbig := tin_3 (List.mem_of_getElem? (i := 155) rfl) rfl
theorem me_45 : mx_Me (tB l D b0 ad Hb tau) 45 mn_45 prog_9_method_9_code 2 (Option.none : Option Jvm.ClassFile.FieldType) 1 := mx_MeOf (tab := tb_45) tbig_good (by decide) rfl mc_45 (tin_1 (List.mem_of_getElem? (i := 2) (by decide +kernel)) rfl) ⟨by decide +kernel, by decide +kernel, by decide +kernel⟩ (by decide)
theorem mc_46 : Cond.code mn_46 prog_9_method_10_code 2 (Option.none : Option Jvm.ClassFile.FieldType) ∈ tbig := tin_3 (List.mem_of_getElem? (i := 135) rfl) rfl
theorem me_46 : mx_Me (tB l D b0 ad Hb tau) 46 mn_46 prog_9_method_10_code 2 (Option.none : Option Jvm.ClassFile.FieldType) 1 := mx_MeOf (tab := tb_46) tbig_good (by decide) rfl mc_46 (tin_1 (List.mem_of_getElem? (i := 2) (by decide +kernel)) rfl) ⟨by decide +kernel, by decide +kernel, by decide +kernel⟩ (by decide)
theorem mc_47 : Cond.code mn_47 prog_9_method_11_code 3 (Option.none : Option Jvm.ClassFile.FieldType) ∈ tbig := tin_3 (List.mem_of_getElem? (i := 139) rfl) rfl
theorem me_47 : mx_Me (tB l D b0 ad Hb tau) 47 mn_47 prog_9_method_11_code 3 (Option.none : Option Jvm.ClassFile.FieldType) 1 := mx_MeOf (tab := tb_47) tbig_good (by decide) rfl mc_47 (tin_1 (List.mem_of_getElem? (i := 2) (by decide +kernel)) rfl) ⟨by decide +kernel, by decide +kernel, by decide +kernel⟩ (by decide)
theorem mc_48 : Cond.code mn_48 prog_9_method_12_code 3 (Option.none : Option Jvm.ClassFile.FieldType) ∈ tbig := tin_3 (List.mem_of_getElem? (i := 143) rfl) rfl
theorem me_48 : mx_Me (tB l D b0 ad Hb tau) 48 mn_48 prog_9_method_12_code 3 (Option.none : Option Jvm.ClassFile.FieldType) 1 := mx_MeOf (tab := tb_48) tbig_good (by decide) rfl mc_48 (tin_1 (List.mem_of_getElem? (i := 2) (by decide +kernel)) rfl) ⟨by decide +kernel, by decide +kernel, by decide +kernel⟩ (by decide)
theorem mc_49 : Cond.code mn_49 prog_9_method_13_code 2 (Option.none : Option Jvm.ClassFile.FieldType) ∈ tbig := tin_3 (List.mem_of_getElem? (i := 147) rfl) rfl
theorem me_49 : mx_Me (tB l D b0 ad Hb tau) 49 mn_49 prog_9_method_13_code 2 (Option.none : Option Jvm.ClassFile.FieldType) 1 := mx_MeOf (tab := tb_49) tbig_good (by decide) rfl mc_49 (tin_1 (List.mem_of_getElem? (i := 2) (by decide +kernel)) rfl) ⟨by decide +kernel, by decide +kernel, by decide +kernel⟩ (by decide)
theorem mc_50 : Cond.code mn_50 prog_9_method_14_code 3 (Option.none : Option Jvm.ClassFile.FieldType) ∈ tbig := tin_3 (List.mem_of_getElem? (i := 151) rfl) rfl
theorem me_50 : mx_Me (tB l D b0 ad Hb tau) 50 mn_50 prog_9_method_14_code 3 (Option.none : Option Jvm.ClassFile.FieldType) 1 := mx_MeOf (tab := tb_50) tbig_good (by decide) rfl mc_50 (tin_1 (List.mem_of_getElem? (i := 2) (by decide +kernel)) rfl) ⟨by decide +kernel, by decide +kernel, by decide +kernel⟩ (by decide)
theorem mc_51 : Cond.code mn_51 prog_9_method_15_code 2 (Option.some Jvm.ClassFile.FieldType.boolean) ∈ tbig := tin_3 (List.mem_of_getElem? (i := 131) rfl) rfl
theorem me_51 : mx_Me (tB l D b0 ad Hb tau) 51 mn_51 prog_9_method_15_code 2 (Option.some Jvm.ClassFile.FieldType.boolean) 1 := mx_MeOf (tab := tb_51) tbig_good (by decide) rfl mc_51 (tin_1 (List.mem_of_getElem? (i := 2) (by decide +kernel)) rfl) ⟨by decide +kernel, by decide +kernel, by decide +kernel⟩ (by decide)
theorem mc_52 : Cond.code mn_52 prog_9_method_16_code 2 (Option.none : Option Jvm.ClassFile.FieldType) ∈ tbig := tin_3 (List.mem_of_getElem? (i := 127) rfl) rfl
theorem me_52 : mx_Me (tB l D b0 ad Hb tau) 52 mn_52 prog_9_method_16_code 2 (Option.none : Option Jvm.ClassFile.FieldType) 1 := mx_MeOf (tab := tb_52) tbig_good (by decide) rfl mc_52 (tin_1 (List.mem_of_getElem? (i := 2) (by decide +kernel)) rfl) ⟨by decide +kernel, by decide +kernel, by decide +kernel⟩ (by decide)
theorem mc_53 : Cond.code mn_53 prog_9_method_17_code 2 (Option.none : Option Jvm.ClassFile.FieldType) ∈ tbig := tin_3 (List.mem_of_getElem? (i := 95) rfl) rfl
theorem me_53 : mx_Me (tB l D b0 ad Hb tau) 53 mn_53 prog_9_method_17_code 2 (Option.none : Option Jvm.ClassFile.FieldType) 1 := mx_MeOf (tab := tb_53) tbig_good (by decide) rfl mc_53 (tin_1 (List.mem_of_getElem? (i := 2) (by decide +kernel)) rfl) ⟨by decide +kernel, by decide +kernel, by decide +kernel⟩ (by decide)
theorem mc_54 : Cond.code mn_54 prog_9_method_18_code 4 (Option.some Jvm.ClassFile.FieldType.int) ∈ tbig := tin_3 (List.mem_of_getElem? (i := 103) rfl) rfl
theorem me_54 : mx_Me (tB l D b0 ad Hb tau) 54 mn_54 prog_9_method_18_code 4 (Option.some Jvm.ClassFile.FieldType.int) 2 := mx_MeOf (tab := tb_54) tbig_good (by decide) rfl mc_54 (tin_1 (List.mem_of_getElem? (i := 2) (by decide +kernel)) rfl) ⟨by decide +kernel, by decide +kernel, by decide +kernel⟩ (by decide)
theorem mc_55 : Cond.code mn_55 prog_9_method_19_code 2 (Option.none : Option Jvm.ClassFile.FieldType) ∈ tbig := tin_3 (List.mem_of_getElem? (i := 99) rfl) rfl
theorem me_55 : mx_Me (tB l D b0 ad Hb tau) 55 mn_55 prog_9_method_19_code 2 (Option.none : Option Jvm.ClassFile.FieldType) 1 := mx_MeOf (tab := tb_55) tbig_good (by decide) rfl mc_55 (tin_1 (List.mem_of_getElem? (i := 2) (by decide +kernel)) rfl) ⟨by decide +kernel, by decide +kernel, by decide +kernel⟩ (by decide)
theorem mc_56 : Cond.code mn_56 prog_9_method_20_code 2 (Option.none : Option Jvm.ClassFile.FieldType) ∈ tbig := tin_2 (List.mem_of_getElem? (i := 214) rfl) rfl
theorem me_56 : mx_Me (tB l D b0 ad Hb tau) 56 mn_56 prog_9_method_20_code 2 (Option.none : Option Jvm.ClassFile.FieldType) 0 := mx_MeOf (tab := tb_56) tbig_good (by decide) rfl mc_56 (tin_1 (List.mem_of_getElem? (i := 2) (by decide +kernel)) rfl) ⟨by decide +kernel, by decide +kernel, by decide +kernel⟩ (by decide)
theorem mc_57 : Cond.code mn_57 prog_9_method_21_code 4 (Option.some Jvm.ClassFile.FieldType.boolean) ∈ tbig := tin_2 (List.mem_of_getElem? (i := 218) rfl) rfl
theorem me_57 : mx_Me (tB l D b0 ad Hb tau) 57 mn_57 prog_9_method_21_code 4 (Option.some Jvm.ClassFile.FieldType.boolean) 3 := mx_MeOf (tab := tb_57) tbig_good (by decide) rfl mc_57 (tin_1 (List.mem_of_getElem? (i := 2) (by decide +kernel)) rfl) ⟨by decide +kernel, by decide +kernel, by decide +kernel⟩ (by decide)
theorem mc_58 : Cond.code mn_58 prog_9_method_22_code 1 (Option.some Jvm.ClassFile.FieldType.int) ∈ tbig := tin_3 (List.mem_of_getElem? (i := 35) rfl) rfl
theorem me_58 : mx_Me (tB l D b0 ad Hb tau) 58 mn_58 prog_9_method_22_code 1 (Option.some Jvm.ClassFile.FieldType.int) 0 := mx_MeOf (tab := tb_58) tbig_good (by decide) rfl mc_58 (tin_1 (List.mem_of_getElem? (i := 2) (by decide +kernel)) rfl) ⟨by decide +kernel, by decide +kernel, by decide +kernel⟩ (by decide)
theorem mc_59 : Cond.code mn_59 prog_9_method_23_code 7 (Option.some Jvm.ClassFile.FieldType.int) ∈ tbig := tin_2 (List.mem_of_getElem? (i := 222) rfl) rfl
theorem me_59 : mx_Me (tB l D b0 ad Hb tau) 59 mn_59 prog_9_method_23_code 7 (Option.some Jvm.ClassFile.FieldType.int) 0 := mx_MeOf (tab := tb_59) tbig_good (by decide) rfl mc_59 (tin_1 (List.mem_of_getElem? (i := 2) (by decide +kernel)) rfl) ⟨by decide +kernel, by decide +kernel, by decide +kernel⟩ (by decide)
theorem mc_60 : Cond.code mn_60 prog_10_method_1_code 3 (Option.none : Option Jvm.ClassFile.FieldType) ∈ tbig := tin_1 (List.mem_of_getElem? (i := 235) rfl) rfl
theorem me_60 : mx_Me (tB l D b0 ad Hb tau) 60 mn_60 prog_10_method_1_code 3 (Option.none : Option Jvm.ClassFile.FieldType) 2 := mx_MeOf (tab := tb_60) tbig_good (by decide) rfl mc_60 (tin_1 (List.mem_of_getElem? (i := 7) (by decide +kernel)) rfl) ⟨by decide +kernel, by decide +kernel, by decide +kernel⟩ (by decide)
theorem mc_61 : Cond.code mn_61 prog_10_method_2_code 4 (Option.some Jvm.ClassFile.FieldType.int) ∈ tbig := tin_4 (List.mem_of_getElem? (i := 182) rfl) rfl
theorem me_61 : mx_Me (tB l D b0 ad Hb tau) 61 mn_61 prog_10_method_2_code 4 (Option.some Jvm.ClassFile.FieldType.int) 2 := mx_MeOf (tab := tb_61) tbig_good (by decide) rfl mc_61 (tin_1 (List.mem_of_getElem? (i := 7) (by decide +kernel)) rfl) ⟨by decide +kernel, by decide +kernel, by decide +kernel⟩ (by decide)
theorem mc_62 : Cond.code mn_62 prog_10_method_3_code 5 (Option.none : Option Jvm.ClassFile.FieldType) ∈ tbig := tin_4 (List.mem_of_getElem? (i := 187) rfl) rfl
theorem me_62 : mx_Me (tB l D b0 ad Hb tau) 62 mn_62 prog_10_method_3_code 5 (Option.none : Option Jvm.ClassFile.FieldType) 1 := mx_MeOf (tab := tb_62) tbig_good (by decide) rfl mc_62 (tin_1 (List.mem_of_getElem? (i := 7) (by decide +kernel)) rfl) ⟨by decide +kernel, by decide +kernel, by decide +kernel⟩ (by decide)
theorem mc_63 : Cond.code mn_63 prog_10_method_4_code 5 (Option.some Jvm.ClassFile.FieldType.int) ∈ tbig := tin_4 (List.mem_of_getElem? (i := 197) rfl) rfl
theorem me_63 : mx_Me (tB l D b0 ad Hb tau) 63 mn_63 prog_10_method_4_code 5 (Option.some Jvm.ClassFile.FieldType.int) 2 := mx_MeOf (tab := tb_63) tbig_good (by decide) rfl mc_63 (tin_1 (List.mem_of_getElem? (i := 7) (by decide +kernel)) rfl) ⟨by decide +kernel, by decide +kernel, by decide +kernel⟩ (by decide)
theorem mc_64 : Cond.code mn_64 prog_10_method_5_code 6 (Option.some Jvm.ClassFile.FieldType.int) ∈ tbig := tin_4 (List.mem_of_getElem? (i := 229) rfl) rfl
theorem me_64 : mx_Me (tB l D b0 ad Hb tau) 64 mn_64 prog_10_method_5_code 6 (Option.some Jvm.ClassFile.FieldType.int) 2 := mx_MeOf (tab := tb_64) tbig_good (by decide) rfl mc_64 (tin_1 (List.mem_of_getElem? (i := 7) (by decide +kernel)) rfl) ⟨by decide +kernel, by decide +kernel, by decide +kernel⟩ (by decide)
theorem mc_65 : Cond.code mn_65 prog_10_method_6_code 7 (Option.some Jvm.ClassFile.FieldType.boolean) ∈ tbig := tin_4 (List.mem_of_getElem? (i := 233) rfl) rfl
theorem me_65 : mx_Me (tB l D b0 ad Hb tau) 65 mn_65 prog_10_method_6_code 7 (Option.some Jvm.ClassFile.FieldType.boolean) 3 := mx_MeOf (tab := tb_65) tbig_good (by decide) rfl mc_65 (tin_1 (List.mem_of_getElem? (i := 7) (by decide +kernel)) rfl) ⟨by decide +kernel, by decide +kernel, by decide +kernel⟩ (by decide)
theorem mc_66 : Cond.code mn_66 prog_10_method_7_code 2 (Option.some Jvm.ClassFile.FieldType.boolean) ∈ tbig := tin_4 (List.mem_of_getElem? (i := 236) rfl) rfl
theorem me_66 : mx_Me (tB l D b0 ad Hb tau) 66 mn_66 prog_10_method_7_code 2 (Option.some Jvm.ClassFile.FieldType.boolean) 2 := mx_MeOf (tab := tb_66) tbig_good (by decide) rfl mc_66 (tin_1 (List.mem_of_getElem? (i := 7) (by decide +kernel)) rfl) ⟨by decide +kernel, by decide +kernel, by decide +kernel⟩ (by decide)
theorem mc_67 : Cond.code mn_67 prog_10_method_8_code 6 (Option.some Jvm.ClassFile.FieldType.int) ∈ tbig := tin_5 (List.mem_of_getElem? (i := 103) rfl) rfl
theorem me_67 : mx_Me (tB l D b0 ad Hb tau) 67 mn_67 prog_10_method_8_code 6 (Option.some Jvm.ClassFile.FieldType.int) 2 := mx_MeOf (tab := tb_67) tbig_good (by decide) rfl mc_67 (tin_1 (List.mem_of_getElem? (i := 7) (by decide +kernel)) rfl) ⟨by decide +kernel, by decide +kernel, by decide +kernel⟩ (by decide)
theorem mc_68 : Cond.code mn_68 prog_10_method_9_code 6 (Option.some Jvm.ClassFile.FieldType.int) ∈ tbig := tin_5 (List.mem_of_getElem? (i := 108) rfl) rfl
theorem me_68 : mx_Me (tB l D b0 ad Hb tau) 68 mn_68 prog_10_method_9_code 6 (Option.some Jvm.ClassFile.FieldType.int) 2 := mx_MeOf (tab := tb_68) tbig_good (by decide) rfl mc_68 (tin_1 (List.mem_of_getElem? (i := 7) (by decide +kernel)) rfl) ⟨by decide +kernel, by decide +kernel, by decide +kernel⟩ (by decide)
theorem mc_69 : Cond.code mn_69 prog_10_method_10_code 6 (Option.some Jvm.ClassFile.FieldType.boolean) ∈ tbig := tin_5 (List.mem_of_getElem? (i := 112) rfl) rfl
theorem me_69 : mx_Me (tB l D b0 ad Hb tau) 69 mn_69 prog_10_method_10_code 6 (Option.some Jvm.ClassFile.FieldType.boolean) 2 := mx_MeOf (tab := tb_69) tbig_good (by decide) rfl mc_69 (tin_1 (List.mem_of_getElem? (i := 7) (by decide +kernel)) rfl) ⟨by decide +kernel, by decide +kernel, by decide +kernel⟩ (by decide)
theorem mc_70 : Cond.code mn_70 prog_11_method_1_code 3 (Option.none : Option Jvm.ClassFile.FieldType) ∈ tbig := tin_2 (List.mem_of_getElem? (i := 30) rfl) rfl
theorem me_70 : mx_Me (tB l D b0 ad Hb tau) 70 mn_70 prog_11_method_1_code 3 (Option.none : Option Jvm.ClassFile.FieldType) 2 := mx_MeOf (tab := tb_70) tbig_good (by decide) rfl mc_70 (tin_1 (List.mem_of_getElem? (i := 8) (by decide +kernel)) rfl) ⟨by decide +kernel, by decide +kernel, by decide +kernel⟩ (by decide)
theorem mc_71 : Cond.code mn_71 prog_11_method_2_code 2 (Option.none : Option Jvm.ClassFile.FieldType) ∈ tbig := tin_4 (List.mem_of_getElem? (i := 206) rfl) rfl
theorem me_71 : mx_Me (tB l D b0 ad Hb tau) 71 mn_71 prog_11_method_2_code 2 (Option.none : Option Jvm.ClassFile.FieldType) 1 := mx_MeOf (tab := tb_71) tbig_good (by decide) rfl mc_71 (tin_1 (List.mem_of_getElem? (i := 8) (by decide +kernel)) rfl) ⟨by decide +kernel, by decide +kernel, by decide +kernel⟩ (by decide)
theorem mc_72 : Cond.code mn_72 prog_11_method_3_code 3 (Option.some Jvm.ClassFile.FieldType.boolean) ∈ tbig := tin_4 (List.mem_of_getElem? (i := 210) rfl) rfl
theorem me_72 : mx_Me (tB l D b0 ad Hb tau) 72 mn_72 prog_11_method_3_code 3 (Option.some Jvm.ClassFile.FieldType.boolean) 1 := mx_MeOf (tab := tb_72) tbig_good (by decide) rfl mc_72 (tin_1 (List.mem_of_getElem? (i := 8) (by decide +kernel)) rfl) ⟨by decide +kernel, by decide +kernel, by decide +kernel⟩ (by decide)
theorem mc_73 : Cond.code mn_73 prog_11_method_4_code 8 (Option.none : Option Jvm.ClassFile.FieldType) ∈ tbig := tin_4 (List.mem_of_getElem? (i := 214) rfl) rfl
theorem me_73 : mx_Me (tB l D b0 ad Hb tau) 73 mn_73 prog_11_method_4_code 8 (Option.none : Option Jvm.ClassFile.FieldType) 2 := mx_MeOf (tab := tb_73) tbig_good (by decide) rfl mc_73 (tin_1 (List.mem_of_getElem? (i := 8) (by decide +kernel)) rfl) ⟨by decide +kernel, by decide +kernel, by decide +kernel⟩ (by decide)
theorem mc_74 : Cond.code mn_74 prog_11_method_5_code 6 (Option.none : Option Jvm.ClassFile.FieldType) ∈ tbig := tin_5 (List.mem_of_getElem? (i := 133) rfl) rfl
theorem me_74 : mx_Me (tB l D b0 ad Hb tau) 74 mn_74 prog_11_method_5_code 6 (Option.none : Option Jvm.ClassFile.FieldType) 1 := mx_MeOf (tab := tb_74) tbig_good (by decide) rfl mc_74 (tin_1 (List.mem_of_getElem? (i := 8) (by decide +kernel)) rfl) ⟨by decide +kernel, by decide +kernel, by decide +kernel⟩ (by decide)
theorem mc_75 : Cond.code mn_75 prog_11_method_6_code 7 (Option.some Jvm.ClassFile.FieldType.long) ∈ tbig := tin_4 (List.mem_of_getElem? (i := 221) rfl) rfl
theorem me_75 : mx_Me (tB l D b0 ad Hb tau) 75 mn_75 prog_11_method_6_code 7 (Option.some Jvm.ClassFile.FieldType.long) 3 := mx_MeOf (tab := tb_75) tbig_good (by decide) rfl mc_75 (tin_1 (List.mem_of_getElem? (i := 8) (by decide +kernel)) rfl) ⟨by decide +kernel, by decide +kernel, by decide +kernel⟩ (by decide)
theorem mc_76 : Cond.code mn_76 prog_11_method_7_code 5 (Option.some Jvm.ClassFile.FieldType.long) ∈ tbig := tin_5 (List.mem_of_getElem? (i := 149) rfl) rfl
theorem me_76 : mx_Me (tB l D b0 ad Hb tau) 76 mn_76 prog_11_method_7_code 5 (Option.some Jvm.ClassFile.FieldType.long) 1 := mx_MeOf (tab := tb_76) tbig_good (by decide) rfl mc_76 (tin_1 (List.mem_of_getElem? (i := 8) (by decide +kernel)) rfl) ⟨by decide +kernel, by decide +kernel, by decide +kernel⟩ (by decide)
theorem mc_77 : Cond.code mn_77 prog_11_method_8_code 5 (Option.none : Option Jvm.ClassFile.FieldType) ∈ tbig := tin_5 (List.mem_of_getElem? (i := 49) rfl) rfl
theorem me_77 : mx_Me (tB l D b0 ad Hb tau) 77 mn_77 prog_11_method_8_code 5 (Option.none : Option Jvm.ClassFile.FieldType) 1 := mx_MeOf (tab := tb_77) tbig_good (by decide) rfl mc_77 (tin_1 (List.mem_of_getElem? (i := 8) (by decide +kernel)) rfl) ⟨by decide +kernel, by decide +kernel, by decide +kernel⟩ (by decide)
theorem mc_78 : Cond.code mn_78 prog_11_method_9_code 5 (Option.some Jvm.ClassFile.FieldType.int) ∈ tbig := tin_5 (List.mem_of_getElem? (i := 54) rfl) rfl
theorem me_78 : mx_Me (tB l D b0 ad Hb tau) 78 mn_78 prog_11_method_9_code 5 (Option.some Jvm.ClassFile.FieldType.int) 2 := mx_MeOf (tab := tb_78) tbig_good (by decide) rfl mc_78 (tin_1 (List.mem_of_getElem? (i := 8) (by decide +kernel)) rfl) ⟨by decide +kernel, by decide +kernel, by decide +kernel⟩ (by decide)
theorem mc_79 : Cond.code mn_79 prog_11_method_10_code 3 (Option.some Jvm.ClassFile.FieldType.boolean) ∈ tbig := tin_5 (List.mem_of_getElem? (i := 58) rfl) rfl
theorem me_79 : mx_Me (tB l D b0 ad Hb tau) 79 mn_79 prog_11_method_10_code 3 (Option.some Jvm.ClassFile.FieldType.boolean) 2 := mx_MeOf (tab := tb_79) tbig_good (by decide) rfl mc_79 (tin_1 (List.mem_of_getElem? (i := 8) (by decide +kernel)) rfl) ⟨by decide +kernel, by decide +kernel, by decide +kernel⟩ (by decide)
theorem mc_80 : Cond.code mn_80 prog_11_method_11_code 5 (Option.some Jvm.ClassFile.FieldType.int) ∈ tbig := tin_5 (List.mem_of_getElem? (i := 62) rfl) rfl
theorem me_80 : mx_Me (tB l D b0 ad Hb tau) 80 mn_80 prog_11_method_11_code 5 (Option.some Jvm.ClassFile.FieldType.int) 2 := mx_MeOf (tab := tb_80) tbig_good (by decide) rfl mc_80 (tin_1 (List.mem_of_getElem? (i := 8) (by decide +kernel)) rfl) ⟨by decide +kernel, by decide +kernel, by decide +kernel⟩ (by decide)
theorem mc_81 : Cond.code mn_81 prog_11_method_12_code 6 (Option.some Jvm.ClassFile.FieldType.int) ∈ tbig := tin_5 (List.mem_of_getElem? (i := 70) rfl) rfl
theorem me_81 : mx_Me (tB l D b0 ad Hb tau) 81 mn_81 prog_11_method_12_code 6 (Option.some Jvm.ClassFile.FieldType.int) 1 := mx_MeOf (tab := tb_81) tbig_good (by decide) rfl mc_81 (tin_1 (List.mem_of_getElem? (i := 8) (by decide +kernel)) rfl) ⟨by decide +kernel, by decide +kernel, by decide +kernel⟩ (by decide)
theorem mc_82 : Cond.code mn_82 prog_12_method_1_code 1 (Option.none : Option Jvm.ClassFile.FieldType) ∈ tbig := tin_2 (List.mem_of_getElem? (i := 100) rfl) rfl
theorem me_82 : mx_Me (tB l D b0 ad Hb tau) 82 mn_82 prog_12_method_1_code 1 (Option.none : Option Jvm.ClassFile.FieldType) 0 := mx_MeOf (tab := tb_82) tbig_good (by decide) rfl mc_82 (tin_1 (List.mem_of_getElem? (i := 11) (by decide +kernel)) rfl) ⟨by decide +kernel, by decide +kernel, by decide +kernel⟩ (by decide)
theorem mc_83 : Cond.code mn_83 prog_12_method_2_code 3 (Option.none : Option Jvm.ClassFile.FieldType) ∈ tbig := tin_5 (List.mem_of_getElem? (i := 157) rfl) rfl
theorem me_83 : mx_Me (tB l D b0 ad Hb tau) 83 mn_83 prog_12_method_2_code 3 (Option.none : Option Jvm.ClassFile.FieldType) 2 := mx_MeOf (tab := tb_83) tbig_good (by decide) rfl mc_83 (tin_1 (List.mem_of_getElem? (i := 11) (by decide +kernel)) rfl) ⟨by decide +kernel, by decide +kernel, by decide +kernel⟩ (by decide)
theorem mc_84 : Cond.code mn_84 prog_12_method_3_code 4 (Option.none : Option Jvm.ClassFile.FieldType) ∈ tbig := tin_5 (List.mem_of_getElem? (i := 171) rfl) rfl
theorem me_84 : mx_Me (tB l D b0 ad Hb tau) 84 mn_84 prog_12_method_3_code 4 (Option.none : Option Jvm.ClassFile.FieldType) 2 := mx_MeOf (tab := tb_84) tbig_good (by decide) rfl mc_84 (tin_1 (List.mem_of_getElem? (i := 11) (by decide +kernel)) rfl) ⟨by decide +kernel, by decide +kernel, by decide +kernel⟩ (by decide)
theorem mc_85 : Cond.code mn_85 prog_12_method_4_code 2 (Option.some Jvm.ClassFile.FieldType.long) ∈ tbig := tin_4 (List.mem_of_getElem? (i := 79) rfl) rfl
theorem me_85 : mx_Me (tB l D b0 ad Hb tau) 85 mn_85 prog_12_method_4_code 2 (Option.some Jvm.ClassFile.FieldType.long) 1 := mx_MeOf (tab := tb_85) tbig_good (by decide) rfl mc_85 (tin_1 (List.mem_of_getElem? (i := 11) (by decide +kernel)) rfl) ⟨by decide +kernel, by decide +kernel, by decide +kernel⟩ (by decide)
theorem mc_86 : Cond.code mn_86 prog_12_method_5_code 6 (Option.some Jvm.ClassFile.FieldType.boolean) ∈ tbig := tin_4 (List.mem_of_getElem? (i := 177) rfl) rfl
theorem me_86 : mx_Me (tB l D b0 ad Hb tau) 86 mn_86 prog_12_method_5_code 6 (Option.some Jvm.ClassFile.FieldType.boolean) 2 := mx_MeOf (tab := tb_86) tbig_good (by decide) rfl mc_86 (tin_1 (List.mem_of_getElem? (i := 11) (by decide +kernel)) rfl) ⟨by decide +kernel, by decide +kernel, by decide +kernel⟩ (by decide)
theorem mc_87 : Cond.code mn_87 prog_12_method_6_code 4 (Option.some Jvm.ClassFile.FieldType.boolean) ∈ tbig := tin_5 (List.mem_of_getElem? (i := 37) rfl) rfl
theorem me_87 : mx_Me (tB l D b0 ad Hb tau) 87 mn_87 prog_12_method_6_code 4 (Option.some Jvm.ClassFile.FieldType.boolean) 1 := mx_MeOf (tab := tb_87) tbig_good (by decide) rfl mc_87 (tin_1 (List.mem_of_getElem? (i := 11) (by decide +kernel)) rfl) ⟨by decide +kernel, by decide +kernel, by decide +kernel⟩ (by decide)
theorem mc_134 : Cond.code mn_134 prog_1_method_47_code 3 (Option.none : Option Jvm.ClassFile.FieldType) ∈ tbig := tin_2 (List.mem_of_getElem? (i := 195) rfl) rfl
theorem me_134 : mx_Me (tB l D b0 ad Hb tau) 134 mn_134 prog_1_method_47_code 3 (Option.none : Option Jvm.ClassFile.FieldType) 1 := mx_MeOf (tab := tb_134) tbig_good (by decide) rfl mc_134 (tin_1 (List.mem_of_getElem? (i := 1) (by decide +kernel)) rfl) ⟨by decide +kernel, by decide +kernel, by decide +kernel⟩ (by decide)
theorem mc_135 : Cond.code mn_135 prog_1_method_48_code 1 (Option.none : Option Jvm.ClassFile.FieldType) ∈ tbig := tin_2 (List.mem_of_getElem? (i := 120) rfl) rfl
theorem me_135 : mx_Me (tB l D b0 ad Hb tau) 135 mn_135 prog_1_method_48_code 1 (Option.none : Option Jvm.ClassFile.FieldType) 0 := mx_MeOf (tab := tb_135) tbig_good (by decide) rfl mc_135 (tin_1 (List.mem_of_getElem? (i := 1) (by decide +kernel)) rfl) ⟨by decide +kernel, by decide +kernel, by decide +kernel⟩ (by decide)
theorem mc_136 : Cond.code mn_136 prog_1_method_49_code 2 (Option.some Jvm.ClassFile.FieldType.int) ∈ tbig := tin_4 (List.mem_of_getElem? (i := 13) rfl) rfl
theorem me_136 : mx_Me (tB l D b0 ad Hb tau) 136 mn_136 prog_1_method_49_code 2 (Option.some Jvm.ClassFile.FieldType.int) 1 := mx_MeOf (tab := tb_136) tbig_good (by decide) rfl mc_136 (tin_1 (List.mem_of_getElem? (i := 1) (by decide +kernel)) rfl) ⟨by decide +kernel, by decide +kernel, by decide +kernel⟩ (by decide)
theorem mc_137 : Cond.code mn_137 prog_1_method_50_code 1 (Option.none : Option Jvm.ClassFile.FieldType) ∈ tbig := tin_4 (List.mem_of_getElem? (i := 17) rfl) rfl
theorem me_137 : mx_Me (tB l D b0 ad Hb tau) 137 mn_137 prog_1_method_50_code 1 (Option.none : Option Jvm.ClassFile.FieldType) 0 := mx_MeOf (tab := tb_137) tbig_good (by decide) rfl mc_137 (tin_1 (List.mem_of_getElem? (i := 1) (by decide +kernel)) rfl) ⟨by decide +kernel, by decide +kernel, by decide +kernel⟩ (by decide)
theorem mc_138 : Cond.code mn_138 prog_1_method_51_code 3 (Option.some Jvm.ClassFile.FieldType.int) ∈ tbig := tin_4 (List.mem_of_getElem? (i := 75) rfl) rfl
theorem me_138 : mx_Me (tB l D b0 ad Hb tau) 138 mn_138 prog_1_method_51_code 3 (Option.some Jvm.ClassFile.FieldType.int) 1 := mx_MeOf (tab := tb_138) tbig_good (by decide) rfl mc_138 (tin_1 (List.mem_of_getElem? (i := 1) (by decide +kernel)) rfl) ⟨by decide +kernel, by decide +kernel, by decide +kernel⟩ (by decide)
theorem mc_139 : Cond.code mn_139 prog_1_method_52_code 5 (Option.some Jvm.ClassFile.FieldType.int) ∈ tbig := tin_4 (List.mem_of_getElem? (i := 83) rfl) rfl
theorem me_139 : mx_Me (tB l D b0 ad Hb tau) 139 mn_139 prog_1_method_52_code 5 (Option.some Jvm.ClassFile.FieldType.int) 2 := mx_MeOf (tab := tb_139) tbig_good (by decide) rfl mc_139 (tin_1 (List.mem_of_getElem? (i := 1) (by decide +kernel)) rfl) ⟨by decide +kernel, by decide +kernel, by decide +kernel⟩ (by decide)
theorem mc_140 : Cond.code mn_140 prog_1_method_53_code 4 (Option.some Jvm.ClassFile.FieldType.int) ∈ tbig := tin_4 (List.mem_of_getElem? (i := 5) rfl) rfl
theorem me_140 : mx_Me (tB l D b0 ad Hb tau) 140 mn_140 prog_1_method_53_code 4 (Option.some Jvm.ClassFile.FieldType.int) 2 := mx_MeOf (tab := tb_140) tbig_good (by decide) rfl mc_140 (tin_1 (List.mem_of_getElem? (i := 1) (by decide +kernel)) rfl) ⟨by decide +kernel, by decide +kernel, by decide +kernel⟩ (by decide)
theorem mc_141 : Cond.code mn_141 prog_1_method_54_code 4 (Option.some Jvm.ClassFile.FieldType.int) ∈ tbig := tin_4 (List.mem_of_getElem? (i := 34) rfl) rfl
theorem me_141 : mx_Me (tB l D b0 ad Hb tau) 141 mn_141 prog_1_method_54_code 4 (Option.some Jvm.ClassFile.FieldType.int) 3 := mx_MeOf (tab := tb_141) tbig_good (by decide) rfl mc_141 (tin_1 (List.mem_of_getElem? (i := 1) (by decide +kernel)) rfl) ⟨by decide +kernel, by decide +kernel, by decide +kernel⟩ (by decide)
theorem mc_142 : Cond.code mn_142 prog_1_method_55_code 4 (Option.some Jvm.ClassFile.FieldType.int) ∈ tbig := tin_4 (List.mem_of_getElem? (i := 47) rfl) rfl
theorem me_142 : mx_Me (tB l D b0 ad Hb tau) 142 mn_142 prog_1_method_55_code 4 (Option.some Jvm.ClassFile.FieldType.int) 3 := mx_MeOf (tab := tb_142) tbig_good (by decide) rfl mc_142 (tin_1 (List.mem_of_getElem? (i := 1) (by decide +kernel)) rfl) ⟨by decide +kernel, by decide +kernel, by decide +kernel⟩ (by decide)
theorem mc_143 : Cond.code mn_143 prog_1_method_56_code 3 (Option.some Jvm.ClassFile.FieldType.int) ∈ tbig := tin_4 (List.mem_of_getElem? (i := 55) rfl) rfl
theorem me_143 : mx_Me (tB l D b0 ad Hb tau) 143 mn_143 prog_1_method_56_code 3 (Option.some Jvm.ClassFile.FieldType.int) 2 := mx_MeOf (tab := tb_143) tbig_good (by decide) rfl mc_143 (tin_1 (List.mem_of_getElem? (i := 1) (by decide +kernel)) rfl) ⟨by decide +kernel, by decide +kernel, by decide +kernel⟩ (by decide)
theorem mc_144 : Cond.code mn_144 prog_1_method_57_code 2 (Option.some Jvm.ClassFile.FieldType.boolean) ∈ tbig := tin_4 (List.mem_of_getElem? (i := 71) rfl) rfl
theorem me_144 : mx_Me (tB l D b0 ad Hb tau) 144 mn_144 prog_1_method_57_code 2 (Option.some Jvm.ClassFile.FieldType.boolean) 1 := mx_MeOf (tab := tb_144) tbig_good (by decide) rfl mc_144 (tin_1 (List.mem_of_getElem? (i := 1) (by decide +kernel)) rfl) ⟨by decide +kernel, by decide +kernel, by decide +kernel⟩ (by decide)
theorem mc_145 : Cond.code mn_145 prog_1_method_58_code 6 (Option.some Jvm.ClassFile.FieldType.int) ∈ tbig := tin_4 (List.mem_of_getElem? (i := 172) rfl) rfl
theorem me_145 : mx_Me (tB l D b0 ad Hb tau) 145 mn_145 prog_1_method_58_code 6 (Option.some Jvm.ClassFile.FieldType.int) 1 := mx_MeOf (tab := tb_145) tbig_good (by decide) rfl mc_145 (tin_1 (List.mem_of_getElem? (i := 1) (by decide +kernel)) rfl) ⟨by decide +kernel, by decide +kernel, by decide +kernel⟩ (by decide)
theorem mc_146 : Cond.code mn_146 prog_1_method_59_code 5 (Option.some Jvm.ClassFile.FieldType.int) ∈ tbig := tin_5 (List.mem_of_getElem? (i := 33) rfl) rfl
theorem me_146 : mx_Me (tB l D b0 ad Hb tau) 146 mn_146 prog_1_method_59_code 5 (Option.some Jvm.ClassFile.FieldType.int) 3 := mx_MeOf (tab := tb_146) tbig_good (by decide) rfl mc_146 (tin_1 (List.mem_of_getElem? (i := 1) (by decide +kernel)) rfl) ⟨by decide +kernel, by decide +kernel, by decide +kernel⟩ (by decide)
theorem mc_147 : Cond.code mn_147 prog_1_method_60_code 3 (Option.none : Option Jvm.ClassFile.FieldType) ∈ tbig := tin_5 (List.mem_of_getElem? (i := 41) rfl) rfl
theorem me_147 : mx_Me (tB l D b0 ad Hb tau) 147 mn_147 prog_1_method_60_code 3 (Option.none : Option Jvm.ClassFile.FieldType) 1 := mx_MeOf (tab := tb_147) tbig_good (by decide) rfl mc_147 (tin_1 (List.mem_of_getElem? (i := 1) (by decide +kernel)) rfl) ⟨by decide +kernel, by decide +kernel, by decide +kernel⟩ (by decide)
theorem mc_148 : Cond.code mn_148 prog_1_method_61_code 3 (Option.none : Option Jvm.ClassFile.FieldType) ∈ tbig := tin_5 (List.mem_of_getElem? (i := 129) rfl) rfl
theorem me_148 : mx_Me (tB l D b0 ad Hb tau) 148 mn_148 prog_1_method_61_code 3 (Option.none : Option Jvm.ClassFile.FieldType) 1 := mx_MeOf (tab := tb_148) tbig_good (by decide) rfl mc_148 (tin_1 (List.mem_of_getElem? (i := 1) (by decide +kernel)) rfl) ⟨by decide +kernel, by decide +kernel, by decide +kernel⟩ (by decide)
theorem mc_149 : Cond.code mn_149 prog_1_method_62_code 5 (Option.some Jvm.ClassFile.FieldType.int) ∈ tbig := tin_5 (List.mem_of_getElem? (i := 78) rfl) rfl
theorem me_149 : mx_Me (tB l D b0 ad Hb tau) 149 mn_149 prog_1_method_62_code 5 (Option.some Jvm.ClassFile.FieldType.int) 1 := mx_MeOf (tab := tb_149) tbig_good (by decide) rfl mc_149 (tin_1 (List.mem_of_getElem? (i := 1) (by decide +kernel)) rfl) ⟨by decide +kernel, by decide +kernel, by decide +kernel⟩ (by decide)
theorem mc_150 : Cond.code mn_150 prog_1_method_63_code 4 (Option.some Jvm.ClassFile.FieldType.int) ∈ tbig := tin_5 (List.mem_of_getElem? (i := 82) rfl) rfl
theorem me_150 : mx_Me (tB l D b0 ad Hb tau) 150 mn_150 prog_1_method_63_code 4 (Option.some Jvm.ClassFile.FieldType.int) 1 := mx_MeOf (tab := tb_150) tbig_good (by decide) rfl mc_150 (tin_1 (List.mem_of_getElem? (i := 1) (by decide +kernel)) rfl) ⟨by decide +kernel, by decide +kernel, by decide +kernel⟩ (by decide)
theorem mc_151 : Cond.code mn_151 prog_1_method_64_code 5 (Option.none : Option Jvm.ClassFile.FieldType) ∈ tbig := tin_5 (List.mem_of_getElem? (i := 86) rfl) rfl
theorem me_151 : mx_Me (tB l D b0 ad Hb tau) 151 mn_151 prog_1_method_64_code 5 (Option.none : Option Jvm.ClassFile.FieldType) 2 := mx_MeOf (tab := tb_151) tbig_good (by decide) rfl mc_151 (tin_1 (List.mem_of_getElem? (i := 1) (by decide +kernel)) rfl) ⟨by decide +kernel, by decide +kernel, by decide +kernel⟩ (by decide)
theorem mc_152 : Cond.code mn_152 prog_1_method_65_code 6 (Option.some Jvm.ClassFile.FieldType.int) ∈ tbig := tin_5 (List.mem_of_getElem? (i := 94) rfl) rfl
theorem me_152 : mx_Me (tB l D b0 ad Hb tau) 152 mn_152 prog_1_method_65_code 6 (Option.some Jvm.ClassFile.FieldType.int) 2 := mx_MeOf (tab := tb_152) tbig_good (by decide) rfl mc_152 (tin_1 (List.mem_of_getElem? (i := 1) (by decide +kernel)) rfl) ⟨by decide +kernel, by decide +kernel, by decide +kernel⟩ (by decide)
theorem mc_153 : Cond.code mn_153 prog_1_method_66_code 13 (Option.some Jvm.ClassFile.FieldType.int) ∈ tbig := tin_5 (List.mem_of_getElem? (i := 140) rfl) rfl
theorem me_153 : mx_Me (tB l D b0 ad Hb tau) 153 mn_153 prog_1_method_66_code 13 (Option.some Jvm.ClassFile.FieldType.int) 3 := mx_MeOf (tab := tb_153) tbig_good (by decide) rfl mc_153 (tin_1 (List.mem_of_getElem? (i := 1) (by decide +kernel)) rfl) ⟨by decide +kernel, by decide +kernel, by decide +kernel⟩ (by decide)
theorem mc_154 : Cond.code mn_154 prog_14_method_2_code 6 (Option.some Jvm.ClassFile.FieldType.boolean) ∈ tbig := tin_6 (List.mem_of_getElem? (i := 104) rfl) rfl
theorem me_154 : mx_Me (tB l D b0 ad Hb tau) 154 mn_154 prog_14_method_2_code 6 (Option.some Jvm.ClassFile.FieldType.boolean) 3 := mx_MeOf (tab := tb_154) tbig_good (by decide) rfl mc_154 (tin_1 (List.mem_of_getElem? (i := 13) (by decide +kernel)) rfl) ⟨by decide +kernel, by decide +kernel, by decide +kernel⟩ (by decide)
theorem mc_156 : Cond.code mn_156 prog_14_method_4_code 2 (Option.none : Option Jvm.ClassFile.FieldType) ∈ tbig := tin_5 (List.mem_of_getElem? (i := 197) rfl) rfl
theorem me_156 : mx_Me (tB l D b0 ad Hb tau) 156 mn_156 prog_14_method_4_code 2 (Option.none : Option Jvm.ClassFile.FieldType) 1 := mx_MeOf (tab := tb_156) tbig_good (by decide) rfl mc_156 (tin_1 (List.mem_of_getElem? (i := 13) (by decide +kernel)) rfl) ⟨by decide +kernel, by decide +kernel, by decide +kernel⟩ (by decide)
theorem mc_158 : Cond.code mn_158 prog_14_method_6_code 2 (Option.some Jvm.ClassFile.FieldType.int) ∈ tbig := tin_6 (List.mem_of_getElem? (i := 112) rfl) rfl
theorem me_158 : mx_Me (tB l D b0 ad Hb tau) 158 mn_158 prog_14_method_6_code 2 (Option.some Jvm.ClassFile.FieldType.int) 1 := mx_MeOf (tab := tb_158) tbig_good (by decide) rfl mc_158 (tin_1 (List.mem_of_getElem? (i := 13) (by decide +kernel)) rfl) ⟨by decide +kernel, by decide +kernel, by decide +kernel⟩ (by decide)
theorem mc_159 : Cond.code mn_159 prog_14_method_7_code 1 (Option.some Jvm.ClassFile.FieldType.boolean) ∈ tbig := tin_6 (List.mem_of_getElem? (i := 115) rfl) rfl
theorem me_159 : mx_Me (tB l D b0 ad Hb tau) 159 mn_159 prog_14_method_7_code 1 (Option.some Jvm.ClassFile.FieldType.boolean) 1 := mx_MeOf (tab := tb_159) tbig_good (by decide) rfl mc_159 (tin_1 (List.mem_of_getElem? (i := 13) (by decide +kernel)) rfl) ⟨by decide +kernel, by decide +kernel, by decide +kernel⟩ (by decide)
theorem mc_160 : Cond.code mn_160 prog_14_method_8_code 1 (Option.some Jvm.ClassFile.FieldType.boolean) ∈ tbig := tin_6 (List.mem_of_getElem? (i := 125) rfl) rfl
theorem me_160 : mx_Me (tB l D b0 ad Hb tau) 160 mn_160 prog_14_method_8_code 1 (Option.some Jvm.ClassFile.FieldType.boolean) 1 := mx_MeOf (tab := tb_160) tbig_good (by decide) rfl mc_160 (tin_1 (List.mem_of_getElem? (i := 13) (by decide +kernel)) rfl) ⟨by decide +kernel, by decide +kernel, by decide +kernel⟩ (by decide)
theorem mc_161 : Cond.code mn_161 prog_14_method_9_code 4 (Option.some Jvm.ClassFile.FieldType.int) ∈ tbig := tin_6 (List.mem_of_getElem? (i := 119) rfl) rfl
theorem me_161 : mx_Me (tB l D b0 ad Hb tau) 161 mn_161 prog_14_method_9_code 4 (Option.some Jvm.ClassFile.FieldType.int) 0 := mx_MeOf (tab := tb_161) tbig_good (by decide) rfl mc_161 (tin_1 (List.mem_of_getElem? (i := 13) (by decide +kernel)) rfl) ⟨by decide +kernel, by decide +kernel, by decide +kernel⟩ (by decide)
theorem mc_162 : Cond.code mn_162 prog_14_method_10_code 2 (Option.none : Option Jvm.ClassFile.FieldType) ∈ tbig := tin_6 (List.mem_of_getElem? (i := 108) rfl) rfl
theorem me_162 : mx_Me (tB l D b0 ad Hb tau) 162 mn_162 prog_14_method_10_code 2 (Option.none : Option Jvm.ClassFile.FieldType) 0 := mx_MeOf (tab := tb_162) tbig_good (by decide) rfl mc_162 (tin_1 (List.mem_of_getElem? (i := 13) (by decide +kernel)) rfl) ⟨by decide +kernel, by decide +kernel, by decide +kernel⟩ (by decide)
theorem mc_163 : Cond.code mn_163 prog_14_method_11_code 2 (Option.none : Option Jvm.ClassFile.FieldType) ∈ tbig := tin_6 (List.mem_of_getElem? (i := 138) rfl) rfl
theorem me_163 : mx_Me (tB l D b0 ad Hb tau) 163 mn_163 prog_14_method_11_code 2 (Option.none : Option Jvm.ClassFile.FieldType) 1 := mx_MeOf (tab := tb_163) tbig_good (by decide) rfl mc_163 (tin_1 (List.mem_of_getElem? (i := 13) (by decide +kernel)) rfl) ⟨by decide +kernel, by decide +kernel, by decide +kernel⟩ (by decide)
theorem mc_164 : Cond.code mn_164 prog_14_method_12_code 2 (Option.some Jvm.ClassFile.FieldType.boolean) ∈ tbig := tin_6 (List.mem_of_getElem? (i := 134) rfl) rfl
theorem me_164 : mx_Me (tB l D b0 ad Hb tau) 164 mn_164 prog_14_method_12_code 2 (Option.some Jvm.ClassFile.FieldType.boolean) 1 := mx_MeOf (tab := tb_164) tbig_good (by decide) rfl mc_164 (tin_1 (List.mem_of_getElem? (i := 13) (by decide +kernel)) rfl) ⟨by decide +kernel, by decide +kernel, by decide +kernel⟩ (by decide)
theorem mc_165 : Cond.code mn_165 prog_14_method_13_code 2 (Option.some Jvm.ClassFile.FieldType.boolean) ∈ tbig := tin_6 (List.mem_of_getElem? (i := 130) rfl) rfl
theorem me_165 : mx_Me (tB l D b0 ad Hb tau) 165 mn_165 prog_14_method_13_code 2 (Option.some Jvm.ClassFile.FieldType.boolean) 1 := mx_MeOf (tab := tb_165) tbig_good (by decide) rfl mc_165 (tin_1 (List.mem_of_getElem? (i := 13) (by decide +kernel)) rfl) ⟨by decide +kernel, by decide +kernel, by decide +kernel⟩ (by decide)
theorem mc_166 : Cond.code mn_166 prog_14_method_14_code 4 (Option.some Jvm.ClassFile.FieldType.int) ∈ tbig := tin_6 (List.mem_of_getElem? (i := 142) rfl) rfl
theorem me_166 : mx_Me (tB l D b0 ad Hb tau) 166 mn_166 prog_14_method_14_code 4 (Option.some Jvm.ClassFile.FieldType.int) 2 := mx_MeOf (tab := tb_166) tbig_good (by decide) rfl mc_166 (tin_1 (List.mem_of_getElem? (i := 13) (by decide +kernel)) rfl) ⟨by decide +kernel, by decide +kernel, by decide +kernel⟩ (by decide)
theorem mc_167 : Cond.code mn_167 prog_14_method_15_code 3 (Option.some Jvm.ClassFile.FieldType.boolean) ∈ tbig := tin_8 (List.mem_of_getElem? (i := 60) rfl) rfl
theorem me_167 : mx_Me (tB l D b0 ad Hb tau) 167 mn_167 prog_14_method_15_code 3 (Option.some Jvm.ClassFile.FieldType.boolean) 2 := mx_MeOf (tab := tb_167) tbig_good (by decide) rfl mc_167 (tin_1 (List.mem_of_getElem? (i := 13) (by decide +kernel)) rfl) ⟨by decide +kernel, by decide +kernel, by decide +kernel⟩ (by decide)
theorem mc_168 : Cond.code mn_168 prog_14_method_16_code 2 (Option.some Jvm.ClassFile.FieldType.int) ∈ tbig := tin_6 (List.mem_of_getElem? (i := 178) rfl) rfl
theorem me_168 : mx_Me (tB l D b0 ad Hb tau) 168 mn_168 prog_14_method_16_code 2 (Option.some Jvm.ClassFile.FieldType.int) 1 := mx_MeOf (tab := tb_168) tbig_good (by decide) rfl mc_168 (tin_1 (List.mem_of_getElem? (i := 13) (by decide +kernel)) rfl) ⟨by decide +kernel, by decide +kernel, by decide +kernel⟩ (by decide)
theorem mc_169 : Cond.code mn_169 prog_14_method_17_code 2 (Option.none : Option Jvm.ClassFile.FieldType) ∈ tbig := tin_6 (List.mem_of_getElem? (i := 174) rfl) rfl
theorem me_169 : mx_Me (tB l D b0 ad Hb tau) 169 mn_169 prog_14_method_17_code 2 (Option.none : Option Jvm.ClassFile.FieldType) 1 := mx_MeOf (tab := tb_169) tbig_good (by decide) rfl mc_169 (tin_1 (List.mem_of_getElem? (i := 13) (by decide +kernel)) rfl) ⟨by decide +kernel, by decide +kernel, by decide +kernel⟩ (by decide)
theorem mc_170 : Cond.code mn_170 prog_14_method_18_code 2 (Option.some Jvm.ClassFile.FieldType.boolean) ∈ tbig := tin_6 (List.mem_of_getElem? (i := 182) rfl) rfl
theorem me_170 : mx_Me (tB l D b0 ad Hb tau) 170 mn_170 prog_14_method_18_code 2 (Option.some Jvm.ClassFile.FieldType.boolean) 1 := mx_MeOf (tab := tb_170) tbig_good (by decide) rfl mc_170 (tin_1 (List.mem_of_getElem? (i := 13) (by decide +kernel)) rfl) ⟨by decide +kernel, by decide +kernel, by decide +kernel⟩ (by decide)
theorem mc_171 : Cond.code mn_171 prog_14_method_19_code 2 (Option.none : Option Jvm.ClassFile.FieldType) ∈ tbig := tin_6 (List.mem_of_getElem? (i := 170) rfl) rfl
theorem me_171 : mx_Me (tB l D b0 ad Hb tau) 171 mn_171 prog_14_method_19_code 2 (Option.none : Option Jvm.ClassFile.FieldType) 1 := mx_MeOf (tab := tb_171) tbig_good (by decide) rfl mc_171 (tin_1 (List.mem_of_getElem? (i := 13) (by decide +kernel)) rfl) ⟨by decide +kernel, by decide +kernel, by decide +kernel⟩ (by decide)
theorem mc_172 : Cond.code mn_172 prog_14_method_20_code 2 (Option.none : Option Jvm.ClassFile.FieldType) ∈ tbig := tin_6 (List.mem_of_getElem? (i := 186) rfl) rfl
theorem me_172 : mx_Me (tB l D b0 ad Hb tau) 172 mn_172 prog_14_method_20_code 2 (Option.none : Option Jvm.ClassFile.FieldType) 1 := mx_MeOf (tab := tb_172) tbig_good (by decide) rfl mc_172 (tin_1 (List.mem_of_getElem? (i := 13) (by decide +kernel)) rfl) ⟨by decide +kernel, by decide +kernel, by decide +kernel⟩ (by decide)
theorem mc_173 : Cond.code mn_173 prog_14_method_21_code 2 (Option.none : Option Jvm.ClassFile.FieldType) ∈ tbig := tin_6 (List.mem_of_getElem? (i := 166) rfl) rfl
theorem me_173 : mx_Me (tB l D b0 ad Hb tau) 173 mn_173 prog_14_method_21_code 2 (Option.none : Option Jvm.ClassFile.FieldType) 1 := mx_MeOf (tab := tb_173) tbig_good (by decide) rfl mc_173 (tin_1 (List.mem_of_getElem? (i := 13) (by decide +kernel)) rfl) ⟨by decide +kernel, by decide +kernel, by decide +kernel⟩ (by decide)
theorem mc_174 : Cond.code mn_174 prog_14_method_22_code 3 (Option.none : Option Jvm.ClassFile.FieldType) ∈ tbig := tin_6 (List.mem_of_getElem? (i := 162) rfl) rfl
theorem me_174 : mx_Me (tB l D b0 ad Hb tau) 174 mn_174 prog_14_method_22_code 3 (Option.none : Option Jvm.ClassFile.FieldType) 1 := mx_MeOf (tab := tb_174) tbig_good (by decide) rfl mc_174 (tin_1 (List.mem_of_getElem? (i := 13) (by decide +kernel)) rfl) ⟨by decide +kernel, by decide +kernel, by decide +kernel⟩ (by decide)
theorem mc_175 : Cond.code mn_175 prog_14_method_23_code 3 (Option.none : Option Jvm.ClassFile.FieldType) ∈ tbig := tin_6 (List.mem_of_getElem? (i := 198) rfl) rfl
theorem me_175 : mx_Me (tB l D b0 ad Hb tau) 175 mn_175 prog_14_method_23_code 3 (Option.none : Option Jvm.ClassFile.FieldType) 1 := mx_MeOf (tab := tb_175) tbig_good (by decide) rfl mc_175 (tin_1 (List.mem_of_getElem? (i := 13) (by decide +kernel)) rfl) ⟨by decide +kernel, by decide +kernel, by decide +kernel⟩ (by decide)
theorem mc_176 : Cond.code mn_176 prog_14_method_24_code 2 (Option.none : Option Jvm.ClassFile.FieldType) ∈ tbig := tin_6 (List.mem_of_getElem? (i := 194) rfl) rfl
theorem me_176 : mx_Me (tB l D b0 ad Hb tau) 176 mn_176 prog_14_method_24_code 2 (Option.none : Option Jvm.ClassFile.FieldType) 1 := mx_MeOf (tab := tb_176) tbig_good (by decide) rfl mc_176 (tin_1 (List.mem_of_getElem? (i := 13) (by decide +kernel)) rfl) ⟨by decide +kernel, by decide +kernel, by decide +kernel⟩ (by decide)
theorem mc_177 : Cond.code mn_177 prog_14_method_25_code 2 (Option.none : Option Jvm.ClassFile.FieldType) ∈ tbig := tin_6 (List.mem_of_getElem? (i := 190) rfl) rfl
theorem me_177 : mx_Me (tB l D b0 ad Hb tau) 177 mn_177 prog_14_method_25_code 2 (Option.none : Option Jvm.ClassFile.FieldType) 1 := mx_MeOf (tab := tb_177) tbig_good (by decide) rfl mc_177 (tin_1 (List.mem_of_getElem? (i := 13) (by decide +kernel)) rfl) ⟨by decide +kernel, by decide +kernel, by decide +kernel⟩ (by decide)
theorem mc_178 : Cond.code mn_178 prog_14_method_26_code 2 (Option.none : Option Jvm.ClassFile.FieldType) ∈ tbig := tin_6 (List.mem_of_getElem? (i := 154) rfl) rfl
theorem me_178 : mx_Me (tB l D b0 ad Hb tau) 178 mn_178 prog_14_method_26_code 2 (Option.none : Option Jvm.ClassFile.FieldType) 0 := mx_MeOf (tab := tb_178) tbig_good (by decide) rfl mc_178 (tin_1 (List.mem_of_getElem? (i := 13) (by decide +kernel)) rfl) ⟨by decide +kernel, by decide +kernel, by decide +kernel⟩ (by decide)
theorem mc_179 : Cond.code mn_179 prog_14_method_27_code 3 (Option.none : Option Jvm.ClassFile.FieldType) ∈ tbig := tin_6 (List.mem_of_getElem? (i := 158) rfl) rfl
theorem me_179 : mx_Me (tB l D b0 ad Hb tau) 179 mn_179 prog_14_method_27_code 3 (Option.none : Option Jvm.ClassFile.FieldType) 1 := mx_MeOf (tab := tb_179) tbig_good (by decide) rfl mc_179 (tin_1 (List.mem_of_getElem? (i := 13) (by decide +kernel)) rfl) ⟨by decide +kernel, by decide +kernel, by decide +kernel⟩ (by decide)
theorem mc_180 : Cond.code mn_180 prog_14_method_28_code 1 (Option.none : Option Jvm.ClassFile.FieldType) ∈ tbig := tin_6 (List.mem_of_getElem? (i := 150) rfl) rfl
theorem me_180 : mx_Me (tB l D b0 ad Hb tau) 180 mn_180 prog_14_method_28_code 1 (Option.none : Option Jvm.ClassFile.FieldType) 0 := mx_MeOf (tab := tb_180) tbig_good (by decide) rfl mc_180 (tin_1 (List.mem_of_getElem? (i := 13) (by decide +kernel)) rfl) ⟨by decide +kernel, by decide +kernel, by decide +kernel⟩ (by decide)
theorem mc_181 : Cond.code mn_181 prog_14_method_29_code 1 (Option.none : Option Jvm.ClassFile.FieldType) ∈ tbig := tin_6 (List.mem_of_getElem? (i := 146) rfl) rfl
theorem me_181 : mx_Me (tB l D b0 ad Hb tau) 181 mn_181 prog_14_method_29_code 1 (Option.none : Option Jvm.ClassFile.FieldType) 0 := mx_MeOf (tab := tb_181) tbig_good (by decide) rfl mc_181 (tin_1 (List.mem_of_getElem? (i := 13) (by decide +kernel)) rfl) ⟨by decide +kernel, by decide +kernel, by decide +kernel⟩ (by decide)
theorem mc_184 : Cond.code mn_184 prog_14_method_32_code 1 (Option.none : Option Jvm.ClassFile.FieldType) ∈ tbig := tin_5 (List.mem_of_getElem? (i := 201) rfl) rfl
theorem me_184 : mx_Me (tB l D b0 ad Hb tau) 184 mn_184 prog_14_method_32_code 1 (Option.none : Option Jvm.ClassFile.FieldType) 0 := mx_MeOf (tab := tb_184) tbig_good (by decide) rfl mc_184 (tin_1 (List.mem_of_getElem? (i := 13) (by decide +kernel)) rfl) ⟨by decide +kernel, by decide +kernel, by decide +kernel⟩ (by decide)
theorem mc_185 : Cond.code mn_185 prog_14_method_33_code 5 (Option.none : Option Jvm.ClassFile.FieldType) ∈ tbig := tin_5 (List.mem_of_getElem? (i := 205) rfl) rfl
theorem me_185 : mx_Me (tB l D b0 ad Hb tau) 185 mn_185 prog_14_method_33_code 5 (Option.none : Option Jvm.ClassFile.FieldType) 3 := mx_MeOf (tab := tb_185) tbig_good (by decide) rfl mc_185 (tin_1 (List.mem_of_getElem? (i := 13) (by decide +kernel)) rfl) ⟨by decide +kernel, by decide +kernel, by decide +kernel⟩ (by decide)
theorem mc_186 : Cond.code mn_186 prog_14_method_34_code 2 (Option.none : Option Jvm.ClassFile.FieldType) ∈ tbig := tin_6 (List.mem_of_getElem? (i := 202) rfl) rfl
theorem me_186 : mx_Me (tB l D b0 ad Hb tau) 186 mn_186 prog_14_method_34_code 2 (Option.none : Option Jvm.ClassFile.FieldType) 0 := mx_MeOf (tab := tb_186) tbig_good (by decide) rfl mc_186 (tin_1 (List.mem_of_getElem? (i := 13) (by decide +kernel)) rfl) ⟨by decide +kernel, by decide +kernel, by decide +kernel⟩ (by decide)
theorem mc_187 : Cond.code mn_187 prog_14_method_35_code 3 (Option.none : Option Jvm.ClassFile.FieldType) ∈ tbig := tin_7 (List.mem_of_getElem? (i := 65) rfl) rfl
theorem me_187 : mx_Me (tB l D b0 ad Hb tau) 187 mn_187 prog_14_method_35_code 3 (Option.none : Option Jvm.ClassFile.FieldType) 1 := mx_MeOf (tab := tb_187) tbig_good (by decide) rfl mc_187 (tin_1 (List.mem_of_getElem? (i := 13) (by decide +kernel)) rfl) ⟨by decide +kernel, by decide +kernel, by decide +kernel⟩ (by decide)
theorem mc_188 : Cond.code mn_188 prog_14_method_36_code 4 (Option.some Jvm.ClassFile.FieldType.int) ∈ tbig := tin_6 (List.mem_of_getElem? (i := 206) rfl) rfl
theorem me_188 : mx_Me (tB l D b0 ad Hb tau) 188 mn_188 prog_14_method_36_code 4 (Option.some Jvm.ClassFile.FieldType.int) 0 := mx_MeOf (tab := tb_188) tbig_good (by decide) rfl mc_188 (tin_1 (List.mem_of_getElem? (i := 13) (by decide +kernel)) rfl) ⟨by decide +kernel, by decide +kernel, by decide +kernel⟩ (by decide)
theorem mc_189 : Cond.code mn_189 prog_14_method_37_code 3 (Option.some Jvm.ClassFile.FieldType.boolean) ∈ tbig := tin_6 (List.mem_of_getElem? (i := 210) rfl) rfl
theorem me_189 : mx_Me (tB l D b0 ad Hb tau) 189 mn_189 prog_14_method_37_code 3 (Option.some Jvm.ClassFile.FieldType.boolean) 1 := mx_MeOf (tab := tb_189) tbig_good (by decide) rfl mc_189 (tin_1 (List.mem_of_getElem? (i := 13) (by decide +kernel)) rfl) ⟨by decide +kernel, by decide +kernel, by decide +kernel⟩ (by decide)
theorem mc_190 : Cond.code mn_190 prog_14_method_38_code 3 (Option.some Jvm.ClassFile.FieldType.int) ∈ tbig := tin_6 (List.mem_of_getElem? (i := 226) rfl) rfl
theorem me_190 : mx_Me (tB l D b0 ad Hb tau) 190 mn_190 prog_14_method_38_code 3 (Option.some Jvm.ClassFile.FieldType.int) 2 := mx_MeOf (tab := tb_190) tbig_good (by decide) rfl mc_190 (tin_1 (List.mem_of_getElem? (i := 13) (by decide +kernel)) rfl) ⟨by decide +kernel, by decide +kernel, by decide +kernel⟩ (by decide)
theorem mc_191 : Cond.code mn_191 prog_14_method_39_code 3 (Option.some Jvm.ClassFile.FieldType.int) ∈ tbig := tin_6 (List.mem_of_getElem? (i := 222) rfl) rfl
theorem me_191 : mx_Me (tB l D b0 ad Hb tau) 191 mn_191 prog_14_method_39_code 3 (Option.some Jvm.ClassFile.FieldType.int) 1 := mx_MeOf (tab := tb_191) tbig_good (by decide) rfl mc_191 (tin_1 (List.mem_of_getElem? (i := 13) (by decide +kernel)) rfl) ⟨by decide +kernel, by decide +kernel, by decide +kernel⟩ (by decide)
theorem mc_192 : Cond.code mn_192 prog_14_method_40_code 4 (Option.some Jvm.ClassFile.FieldType.int) ∈ tbig := tin_7 (List.mem_of_getElem? (i := 17) rfl) rfl
theorem me_192 : mx_Me (tB l D b0 ad Hb tau) 192 mn_192 prog_14_method_40_code 4 (Option.some Jvm.ClassFile.FieldType.int) 2 := mx_MeOf (tab := tb_192) tbig_good (by decide) rfl mc_192 (tin_1 (List.mem_of_getElem? (i := 13) (by decide +kernel)) rfl) ⟨by decide +kernel, by decide +kernel, by decide +kernel⟩ (by decide)
theorem mc_193 : Cond.code mn_193 prog_14_method_41_code 5 (Option.some Jvm.ClassFile.FieldType.int) ∈ tbig := tin_7 (List.mem_of_getElem? (i := 1) rfl) rfl
theorem me_193 : mx_Me (tB l D b0 ad Hb tau) 193 mn_193 prog_14_method_41_code 5 (Option.some Jvm.ClassFile.FieldType.int) 3 := mx_MeOf (tab := tb_193) tbig_good (by decide) rfl mc_193 (tin_1 (List.mem_of_getElem? (i := 13) (by decide +kernel)) rfl) ⟨by decide +kernel, by decide +kernel, by decide +kernel⟩ (by decide)
theorem mc_194 : Cond.code mn_194 prog_14_method_42_code 5 (Option.some Jvm.ClassFile.FieldType.int) ∈ tbig := tin_6 (List.mem_of_getElem? (i := 238) rfl) rfl
theorem me_194 : mx_Me (tB l D b0 ad Hb tau) 194 mn_194 prog_14_method_42_code 5 (Option.some Jvm.ClassFile.FieldType.int) 1 := mx_MeOf (tab := tb_194) tbig_good (by decide) rfl mc_194 (tin_1 (List.mem_of_getElem? (i := 13) (by decide +kernel)) rfl) ⟨by decide +kernel, by decide +kernel, by decide +kernel⟩ (by decide)
theorem mc_195 : Cond.code mn_195 prog_14_method_43_code 5 (Option.some Jvm.ClassFile.FieldType.int) ∈ tbig := tin_6 (List.mem_of_getElem? (i := 234) rfl) rfl
theorem me_195 : mx_Me (tB l D b0 ad Hb tau) 195 mn_195 prog_14_method_43_code 5 (Option.some Jvm.ClassFile.FieldType.int) 3 := mx_MeOf (tab := tb_195) tbig_good (by decide) rfl mc_195 (tin_1 (List.mem_of_getElem? (i := 13) (by decide +kernel)) rfl) ⟨by decide +kernel, by decide +kernel, by decide +kernel⟩ (by decide)
theorem mc_196 : Cond.code mn_196 prog_14_method_44_code 7 (Option.some Jvm.ClassFile.FieldType.int) ∈ tbig := tin_7 (List.mem_of_getElem? (i := 25) rfl) rfl
theorem me_196 : mx_Me (tB l D b0 ad Hb tau) 196 mn_196 prog_14_method_44_code 7 (Option.some Jvm.ClassFile.FieldType.int) 3 := mx_MeOf (tab := tb_196) tbig_good (by decide) rfl mc_196 (tin_1 (List.mem_of_getElem? (i := 13) (by decide +kernel)) rfl) ⟨by decide +kernel, by decide +kernel, by decide +kernel⟩ (by decide)
theorem mc_197 : Cond.code mn_197 prog_14_method_45_code 3 (Option.some Jvm.ClassFile.FieldType.boolean) ∈ tbig := tin_7 (List.mem_of_getElem? (i := 12) rfl) rfl
theorem me_197 : mx_Me (tB l D b0 ad Hb tau) 197 mn_197 prog_14_method_45_code 3 (Option.some Jvm.ClassFile.FieldType.boolean) 2 := mx_MeOf (tab := tb_197) tbig_good (by decide) rfl mc_197 (tin_1 (List.mem_of_getElem? (i := 13) (by decide +kernel)) rfl) ⟨by decide +kernel, by decide +kernel, by decide +kernel⟩ (by decide)
theorem mc_198 : Cond.code mn_198 prog_14_method_46_code 4 (Option.some Jvm.ClassFile.FieldType.int) ∈ tbig := tin_7 (List.mem_of_getElem? (i := 21) rfl) rfl
theorem me_198 : mx_Me (tB l D b0 ad Hb tau) 198 mn_198 prog_14_method_46_code 4 (Option.some Jvm.ClassFile.FieldType.int) 3 := mx_MeOf (tab := tb_198) tbig_good (by decide) rfl mc_198 (tin_1 (List.mem_of_getElem? (i := 13) (by decide +kernel)) rfl) ⟨by decide +kernel, by decide +kernel, by decide +kernel⟩ (by decide)
theorem mc_202 : Cond.code mn_202 prog_14_method_50_code 2 (Option.none : Option Jvm.ClassFile.FieldType) ∈ tbig := tin_7 (List.mem_of_getElem? (i := 33) rfl) rfl
theorem me_202 : mx_Me (tB l D b0 ad Hb tau) 202 mn_202 prog_14_method_50_code 2 (Option.none : Option Jvm.ClassFile.FieldType) 0 := mx_MeOf (tab := tb_202) tbig_good (by decide) rfl mc_202 (tin_1 (List.mem_of_getElem? (i := 13) (by decide +kernel)) rfl) ⟨by decide +kernel, by decide +kernel, by decide +kernel⟩ (by decide)
theorem mc_203 : Cond.code mn_203 prog_14_method_51_code 2 (Option.none : Option Jvm.ClassFile.FieldType) ∈ tbig := tin_7 (List.mem_of_getElem? (i := 118) rfl) rfl
theorem me_203 : mx_Me (tB l D b0 ad Hb tau) 203 mn_203 prog_14_method_51_code 2 (Option.none : Option Jvm.ClassFile.FieldType) 0 := mx_MeOf (tab := tb_203) tbig_good (by decide) rfl mc_203 (tin_1 (List.mem_of_getElem? (i := 13) (by decide +kernel)) rfl) ⟨by decide +kernel, by decide +kernel, by decide +kernel⟩ (by decide)
theorem mc_204 : Cond.code mn_204 prog_14_method_52_code 2 (Option.none : Option Jvm.ClassFile.FieldType) ∈ tbig := tin_7 (List.mem_of_getElem? (i := 41) rfl) rfl
theorem me_204 : mx_Me (tB l D b0 ad Hb tau) 204 mn_204 prog_14_method_52_code 2 (Option.none : Option Jvm.ClassFile.FieldType) 0 := mx_MeOf (tab := tb_204) tbig_good (by decide) rfl mc_204 (tin_1 (List.mem_of_getElem? (i := 13) (by decide +kernel)) rfl) ⟨by decide +kernel, by decide +kernel, by decide +kernel⟩ (by decide)
theorem mc_205 : Cond.code mn_205 prog_14_method_53_code 2 (Option.none : Option Jvm.ClassFile.FieldType) ∈ tbig := tin_7 (List.mem_of_getElem? (i := 37) rfl) rfl
theorem me_205 : mx_Me (tB l D b0 ad Hb tau) 205 mn_205 prog_14_method_53_code 2 (Option.none : Option Jvm.ClassFile.FieldType) 1 := mx_MeOf (tab := tb_205) tbig_good (by decide) rfl mc_205 (tin_1 (List.mem_of_getElem? (i := 13) (by decide +kernel)) rfl) ⟨by decide +kernel, by decide +kernel, by decide +kernel⟩ (by decide)
theorem mc_208 : Cond.code mn_208 prog_14_method_56_code 2 (Option.some Jvm.ClassFile.FieldType.boolean) ∈ tbig := tin_7 (List.mem_of_getElem? (i := 57) rfl) rfl
theorem me_208 : mx_Me (tB l D b0 ad Hb tau) 208 mn_208 prog_14_method_56_code 2 (Option.some Jvm.ClassFile.FieldType.boolean) 1 := mx_MeOf (tab := tb_208) tbig_good (by decide) rfl mc_208 (tin_1 (List.mem_of_getElem? (i := 13) (by decide +kernel)) rfl) ⟨by decide +kernel, by decide +kernel, by decide +kernel⟩ (by decide)
theorem mc_209 : Cond.code mn_209 prog_14_method_57_code 3 (Option.some Jvm.ClassFile.FieldType.int) ∈ tbig := tin_7 (List.mem_of_getElem? (i := 54) rfl) rfl
theorem me_209 : mx_Me (tB l D b0 ad Hb tau) 209 mn_209 prog_14_method_57_code 3 (Option.some Jvm.ClassFile.FieldType.int) 2 := mx_MeOf (tab := tb_209) tbig_good (by decide) rfl mc_209 (tin_1 (List.mem_of_getElem? (i := 13) (by decide +kernel)) rfl) ⟨by decide +kernel, by decide +kernel, by decide +kernel⟩ (by decide)
theorem mc_210 : Cond.code mn_210 prog_14_method_58_code 3 (Option.none : Option Jvm.ClassFile.FieldType) ∈ tbig := tin_7 (List.mem_of_getElem? (i := 61) rfl) rfl
theorem me_210 : mx_Me (tB l D b0 ad Hb tau) 210 mn_210 prog_14_method_58_code 3 (Option.none : Option Jvm.ClassFile.FieldType) 2 := mx_MeOf (tab := tb_210) tbig_good (by decide) rfl mc_210 (tin_1 (List.mem_of_getElem? (i := 13) (by decide +kernel)) rfl) ⟨by decide +kernel, by decide +kernel, by decide +kernel⟩ (by decide)
theorem mc_212 : Cond.code mn_212 prog_14_method_60_code 4 (Option.some Jvm.ClassFile.FieldType.int) ∈ tbig := tin_7 (List.mem_of_getElem? (i := 73) rfl) rfl
theorem me_212 : mx_Me (tB l D b0 ad Hb tau) 212 mn_212 prog_14_method_60_code 4 (Option.some Jvm.ClassFile.FieldType.int) 2 := mx_MeOf (tab := tb_212) tbig_good (by decide) rfl mc_212 (tin_1 (List.mem_of_getElem? (i := 13) (by decide +kernel)) rfl) ⟨by decide +kernel, by decide +kernel, by decide +kernel⟩ (by decide)
theorem mc_213 : Cond.code mn_213 prog_14_method_61_code 5 (Option.none : Option Jvm.ClassFile.FieldType) ∈ tbig := tin_7 (List.mem_of_getElem? (i := 77) rfl) rfl
theorem me_213 : mx_Me (tB l D b0 ad Hb tau) 213 mn_213 prog_14_method_61_code 5 (Option.none : Option Jvm.ClassFile.FieldType) 2 := mx_MeOf (tab := tb_213) tbig_good (by decide) rfl mc_213 (tin_1 (List.mem_of_getElem? (i := 13) (by decide +kernel)) rfl) ⟨by decide +kernel, by decide +kernel, by decide +kernel⟩ (by decide)
theorem mc_217 : Cond.code mn_217 prog_14_method_65_code 3 (Option.some Jvm.ClassFile.FieldType.int) ∈ tbig := tin_7 (List.mem_of_getElem? (i := 104) rfl) rfl
theorem me_217 : mx_Me (tB l D b0 ad Hb tau) 217 mn_217 prog_14_method_65_code 3 (Option.some Jvm.ClassFile.FieldType.int) 1 := mx_MeOf (tab := tb_217) tbig_good (by decide) rfl mc_217 (tin_1 (List.mem_of_getElem? (i := 13) (by decide +kernel)) rfl) ⟨by decide +kernel, by decide +kernel, by decide +kernel⟩ (by decide)
theorem mc_218 : Cond.code mn_218 prog_14_method_66_code 2 (Option.none : Option Jvm.ClassFile.FieldType) ∈ tbig := tin_7 (List.mem_of_getElem? (i := 114) rfl) rfl
theorem me_218 : mx_Me (tB l D b0 ad Hb tau) 218 mn_218 prog_14_method_66_code 2 (Option.none : Option Jvm.ClassFile.FieldType) 1 := mx_MeOf (tab := tb_218) tbig_good (by decide) rfl mc_218 (tin_1 (List.mem_of_getElem? (i := 13) (by decide +kernel)) rfl) ⟨by decide +kernel, by decide +kernel, by decide +kernel⟩ (by decide)
theorem mc_219 : Cond.code mn_219 prog_14_method_67_code 3 (Option.some Jvm.ClassFile.FieldType.int) ∈ tbig := tin_7 (List.mem_of_getElem? (i := 100) rfl) rfl
theorem me_219 : mx_Me (tB l D b0 ad Hb tau) 219 mn_219 prog_14_method_67_code 3 (Option.some Jvm.ClassFile.FieldType.int) 1 := mx_MeOf (tab := tb_219) tbig_good (by decide) rfl mc_219 (tin_1 (List.mem_of_getElem? (i := 13) (by decide +kernel)) rfl) ⟨by decide +kernel, by decide +kernel, by decide +kernel⟩ (by decide)
theorem mc_220 : Cond.code mn_220 prog_14_method_68_code 2 (Option.some Jvm.ClassFile.FieldType.int) ∈ tbig := tin_7 (List.mem_of_getElem? (i := 96) rfl) rfl
theorem me_220 : mx_Me (tB l D b0 ad Hb tau) 220 mn_220 prog_14_method_68_code 2 (Option.some Jvm.ClassFile.FieldType.int) 1 := mx_MeOf (tab := tb_220) tbig_good (by decide) rfl mc_220 (tin_1 (List.mem_of_getElem? (i := 13) (by decide +kernel)) rfl) ⟨by decide +kernel, by decide +kernel, by decide +kernel⟩ (by decide)
theorem mc_223 : Cond.code mn_223 prog_14_method_71_code 2 (Option.some Jvm.ClassFile.FieldType.int) ∈ tbig := tin_7 (List.mem_of_getElem? (i := 135) rfl) rfl
theorem me_223 : mx_Me (tB l D b0 ad Hb tau) 223 mn_223 prog_14_method_71_code 2 (Option.some Jvm.ClassFile.FieldType.int) 1 := mx_MeOf (tab := tb_223) tbig_good (by decide) rfl mc_223 (tin_1 (List.mem_of_getElem? (i := 13) (by decide +kernel)) rfl) ⟨by decide +kernel, by decide +kernel, by decide +kernel⟩ (by decide)
theorem mc_224 : Cond.code mn_224 prog_14_method_72_code 3 (Option.some Jvm.ClassFile.FieldType.int) ∈ tbig := tin_7 (List.mem_of_getElem? (i := 131) rfl) rfl
theorem me_224 : mx_Me (tB l D b0 ad Hb tau) 224 mn_224 prog_14_method_72_code 3 (Option.some Jvm.ClassFile.FieldType.int) 0 := mx_MeOf (tab := tb_224) tbig_good (by decide) rfl mc_224 (tin_1 (List.mem_of_getElem? (i := 13) (by decide +kernel)) rfl) ⟨by decide +kernel, by decide +kernel, by decide +kernel⟩ (by decide)
theorem mc_226 : Cond.code mn_226 prog_14_method_74_code 2 (Option.none : Option Jvm.ClassFile.FieldType) ∈ tbig := tin_7 (List.mem_of_getElem? (i := 145) rfl) rfl
theorem me_226 : mx_Me (tB l D b0 ad Hb tau) 226 mn_226 prog_14_method_74_code 2 (Option.none : Option Jvm.ClassFile.FieldType) 0 := mx_MeOf (tab := tb_226) tbig_good (by decide) rfl mc_226 (tin_1 (List.mem_of_getElem? (i := 13) (by decide +kernel)) rfl) ⟨by decide +kernel, by decide +kernel, by decide +kernel⟩ (by decide)
theorem mc_227 : Cond.code mn_227 prog_14_method_75_code 3 (Option.none : Option Jvm.ClassFile.FieldType) ∈ tbig := tin_7 (List.mem_of_getElem? (i := 149) rfl) rfl
theorem me_227 : mx_Me (tB l D b0 ad Hb tau) 227 mn_227 prog_14_method_75_code 3 (Option.none : Option Jvm.ClassFile.FieldType) 1 := mx_MeOf (tab := tb_227) tbig_good (by decide) rfl mc_227 (tin_1 (List.mem_of_getElem? (i := 13) (by decide +kernel)) rfl) ⟨by decide +kernel, by decide +kernel, by decide +kernel⟩ (by decide)
theorem mc_230 : Cond.code mn_230 prog_14_method_78_code 2 (Option.none : Option Jvm.ClassFile.FieldType) ∈ tbig := tin_7 (List.mem_of_getElem? (i := 162) rfl) rfl
theorem me_230 : mx_Me (tB l D b0 ad Hb tau) 230 mn_230 prog_14_method_78_code 2 (Option.none : Option Jvm.ClassFile.FieldType) 0 := mx_MeOf (tab := tb_230) tbig_good (by decide) rfl mc_230 (tin_1 (List.mem_of_getElem? (i := 13) (by decide +kernel)) rfl) ⟨by decide +kernel, by decide +kernel, by decide +kernel⟩ (by decide)
theorem mc_231 : Cond.code mn_231 prog_14_method_79_code 3 (Option.some Jvm.ClassFile.FieldType.int) ∈ tbig := tin_7 (List.mem_of_getElem? (i := 166) rfl) rfl
theorem me_231 : mx_Me (tB l D b0 ad Hb tau) 231 mn_231 prog_14_method_79_code 3 (Option.some Jvm.ClassFile.FieldType.int) 0 := mx_MeOf (tab := tb_231) tbig_good (by decide) rfl mc_231 (tin_1 (List.mem_of_getElem? (i := 13) (by decide +kernel)) rfl) ⟨by decide +kernel, by decide +kernel, by decide +kernel⟩ (by decide)
theorem mc_232 : Cond.code mn_232 prog_14_method_80_code 4 (Option.some Jvm.ClassFile.FieldType.int) ∈ tbig := tin_7 (List.mem_of_getElem? (i := 170) rfl) rfl
theorem me_232 : mx_Me (tB l D b0 ad Hb tau) 232 mn_232 prog_14_method_80_code 4 (Option.some Jvm.ClassFile.FieldType.int) 1 := mx_MeOf (tab := tb_232) tbig_good (by decide) rfl mc_232 (tin_1 (List.mem_of_getElem? (i := 13) (by decide +kernel)) rfl) ⟨by decide +kernel, by decide +kernel, by decide +kernel⟩ (by decide)
theorem mc_235 : Cond.code mn_235 prog_14_method_83_code 3 (Option.none : Option Jvm.ClassFile.FieldType) ∈ tbig := tin_7 (List.mem_of_getElem? (i := 194) rfl) rfl
theorem me_235 : mx_Me (tB l D b0 ad Hb tau) 235 mn_235 prog_14_method_83_code 3 (Option.none : Option Jvm.ClassFile.FieldType) 0 := mx_MeOf (tab := tb_235) tbig_good (by decide) rfl mc_235 (tin_1 (List.mem_of_getElem? (i := 13) (by decide +kernel)) rfl) ⟨by decide +kernel, by decide +kernel, by decide +kernel⟩ (by decide)
theorem mc_236 : Cond.code mn_236 prog_14_method_84_code 4 (Option.some Jvm.ClassFile.FieldType.int) ∈ tbig := tin_7 (List.mem_of_getElem? (i := 199) rfl) rfl
theorem me_236 : mx_Me (tB l D b0 ad Hb tau) 236 mn_236 prog_14_method_84_code 4 (Option.some Jvm.ClassFile.FieldType.int) 2 := mx_MeOf (tab := tb_236) tbig_good (by decide) rfl mc_236 (tin_1 (List.mem_of_getElem? (i := 13) (by decide +kernel)) rfl) ⟨by decide +kernel, by decide +kernel, by decide +kernel⟩ (by decide)
theorem mc_237 : Cond.code mn_237 prog_14_method_85_code 5 (Option.some Jvm.ClassFile.FieldType.int) ∈ tbig := tin_7 (List.mem_of_getElem? (i := 190) rfl) rfl
theorem me_237 : mx_Me (tB l D b0 ad Hb tau) 237 mn_237 prog_14_method_85_code 5 (Option.some Jvm.ClassFile.FieldType.int) 1 := mx_MeOf (tab := tb_237) tbig_good (by decide) rfl mc_237 (tin_1 (List.mem_of_getElem? (i := 13) (by decide +kernel)) rfl) ⟨by decide +kernel, by decide +kernel, by decide +kernel⟩ (by decide)
theorem mc_238 : Cond.code mn_238 prog_14_method_86_code 1 (Option.some Jvm.ClassFile.FieldType.int) ∈ tbig := tin_7 (List.mem_of_getElem? (i := 202) rfl) rfl
theorem me_238 : mx_Me (tB l D b0 ad Hb tau) 238 mn_238 prog_14_method_86_code 1 (Option.some Jvm.ClassFile.FieldType.int) 1 := mx_MeOf (tab := tb_238) tbig_good (by decide) rfl mc_238 (tin_1 (List.mem_of_getElem? (i := 13) (by decide +kernel)) rfl) ⟨by decide +kernel, by decide +kernel, by decide +kernel⟩ (by decide)
theorem mc_239 : Cond.code mn_239 prog_14_method_87_code 5 (Option.some Jvm.ClassFile.FieldType.int) ∈ tbig := tin_7 (List.mem_of_getElem? (i := 182) rfl) rfl
theorem me_239 : mx_Me (tB l D b0 ad Hb tau) 239 mn_239 prog_14_method_87_code 5 (Option.some Jvm.ClassFile.FieldType.int) 1 := mx_MeOf (tab := tb_239) tbig_good (by decide) rfl mc_239 (tin_1 (List.mem_of_getElem? (i := 13) (by decide +kernel)) rfl) ⟨by decide +kernel, by decide +kernel, by decide +kernel⟩ (by decide)
theorem mc_240 : Cond.code mn_240 prog_14_method_88_code 3 (Option.some Jvm.ClassFile.FieldType.int) ∈ tbig := tin_7 (List.mem_of_getElem? (i := 186) rfl) rfl
theorem me_240 : mx_Me (tB l D b0 ad Hb tau) 240 mn_240 prog_14_method_88_code 3 (Option.some Jvm.ClassFile.FieldType.int) 1 := mx_MeOf (tab := tb_240) tbig_good (by decide) rfl mc_240 (tin_1 (List.mem_of_getElem? (i := 13) (by decide +kernel)) rfl) ⟨by decide +kernel, by decide +kernel, by decide +kernel⟩ (by decide)
theorem mc_243 : Cond.code mn_243 prog_14_method_91_code 2 (Option.none : Option Jvm.ClassFile.FieldType) ∈ tbig := tin_7 (List.mem_of_getElem? (i := 215) rfl) rfl
theorem me_243 : mx_Me (tB l D b0 ad Hb tau) 243 mn_243 prog_14_method_91_code 2 (Option.none : Option Jvm.ClassFile.FieldType) 0 := mx_MeOf (tab := tb_243) tbig_good (by decide) rfl mc_243 (tin_1 (List.mem_of_getElem? (i := 13) (by decide +kernel)) rfl) ⟨by decide +kernel, by decide +kernel, by decide +kernel⟩ (by decide)
theorem mc_244 : Cond.code mn_244 prog_14_method_92_code 2 (Option.none : Option Jvm.ClassFile.FieldType) ∈ tbig := tin_7 (List.mem_of_getElem? (i := 219) rfl) rfl
theorem me_244 : mx_Me (tB l D b0 ad Hb tau) 244 mn_244 prog_14_method_92_code 2 (Option.none : Option Jvm.ClassFile.FieldType) 0 := mx_MeOf (tab := tb_244) tbig_good (by decide) rfl mc_244 (tin_1 (List.mem_of_getElem? (i := 13) (by decide +kernel)) rfl) ⟨by decide +kernel, by decide +kernel, by decide +kernel⟩ (by decide)
theorem mc_246 : Cond.code mn_246 prog_14_method_94_code 5 (Option.some Jvm.ClassFile.FieldType.int) ∈ tbig := tin_7 (List.mem_of_getElem? (i := 227) rfl) rfl
theorem me_246 : mx_Me (tB l D b0 ad Hb tau) 246 mn_246 prog_14_method_94_code 5 (Option.some Jvm.ClassFile.FieldType.int) 3 := mx_MeOf (tab := tb_246) tbig_good (by decide) rfl mc_246 (tin_1 (List.mem_of_getElem? (i := 13) (by decide +kernel)) rfl) ⟨by decide +kernel, by decide +kernel, by decide +kernel⟩ (by decide)
theorem mc_252 : Cond.code mn_252 prog_14_method_100_code 5 (Option.some Jvm.ClassFile.FieldType.boolean) ∈ tbig := tin_8 (List.mem_of_getElem? (i := 11) rfl) rfl
theorem me_252 : mx_Me (tB l D b0 ad Hb tau) 252 mn_252 prog_14_method_100_code 5 (Option.some Jvm.ClassFile.FieldType.boolean) 2 := mx_MeOf (tab := tb_252) tbig_good (by decide) rfl mc_252 (tin_1 (List.mem_of_getElem? (i := 13) (by decide +kernel)) rfl) ⟨by decide +kernel, by decide +kernel, by decide +kernel⟩ (by decide)
theorem mc_255 : Cond.code mn_255 prog_14_method_103_code 7 (Option.some Jvm.ClassFile.FieldType.int) ∈ tbig := tin_8 (List.mem_of_getElem? (i := 23) rfl) rfl
theorem me_255 : mx_Me (tB l D b0 ad Hb tau) 255 mn_255 prog_14_method_103_code 7 (Option.some Jvm.ClassFile.FieldType.int) 2 := mx_MeOf (tab := tb_255) tbig_good (by decide) rfl mc_255 (tin_1 (List.mem_of_getElem? (i := 13) (by decide +kernel)) rfl) ⟨by decide +kernel, by decide +kernel, by decide +kernel⟩ (by decide)
theorem mc_256 : Cond.code mn_256 prog_14_method_104_code 4 (Option.some Jvm.ClassFile.FieldType.boolean) ∈ tbig := tin_8 (List.mem_of_getElem? (i := 33) rfl) rfl
theorem me_256 : mx_Me (tB l D b0 ad Hb tau) 256 mn_256 prog_14_method_104_code 4 (Option.some Jvm.ClassFile.FieldType.boolean) 3 := mx_MeOf (tab := tb_256) tbig_good (by decide) rfl mc_256 (tin_1 (List.mem_of_getElem? (i := 13) (by decide +kernel)) rfl) ⟨by decide +kernel, by decide +kernel, by decide +kernel⟩ (by decide)
theorem mc_257 : Cond.code mn_257 prog_14_method_105_code 9 (Option.some Jvm.ClassFile.FieldType.long) ∈ tbig := tin_8 (List.mem_of_getElem? (i := 29) rfl) rfl
theorem me_257 : mx_Me (tB l D b0 ad Hb tau) 257 mn_257 prog_14_method_105_code 9 (Option.some Jvm.ClassFile.FieldType.long) 1 := mx_MeOf (tab := tb_257) tbig_good (by decide) rfl mc_257 (tin_1 (List.mem_of_getElem? (i := 13) (by decide +kernel)) rfl) ⟨by decide +kernel, by decide +kernel, by decide +kernel⟩ (by decide)
theorem mc_261 : Cond.code mn_261 prog_14_method_109_code 7 (Option.some Jvm.ClassFile.FieldType.int) ∈ tbig := tin_8 (List.mem_of_getElem? (i := 49) rfl) rfl
theorem me_261 : mx_Me (tB l D b0 ad Hb tau) 261 mn_261 prog_14_method_109_code 7 (Option.some Jvm.ClassFile.FieldType.int) 1 := mx_MeOf (tab := tb_261) tbig_good (by decide) rfl mc_261 (tin_1 (List.mem_of_getElem? (i := 13) (by decide +kernel)) rfl) ⟨by decide +kernel, by decide +kernel, by decide +kernel⟩ (by decide)
theorem mc_263 : Cond.code mn_263 prog_14_method_111_code 6 (Option.some Jvm.ClassFile.FieldType.int) ∈ tbig := tin_8 (List.mem_of_getElem? (i := 57) rfl) rfl
theorem me_263 : mx_Me (tB l D b0 ad Hb tau) 263 mn_263 prog_14_method_111_code 6 (Option.some Jvm.ClassFile.FieldType.int) 2 := mx_MeOf (tab := tb_263) tbig_good (by decide) rfl mc_263 (tin_1 (List.mem_of_getElem? (i := 13) (by decide +kernel)) rfl) ⟨by decide +kernel, by decide +kernel, by decide +kernel⟩ (by decide)
theorem mc_265 : Cond.code mn_265 prog_14_method_113_code 4 (Option.some Jvm.ClassFile.FieldType.int) ∈ tbig := tin_8 (List.mem_of_getElem? (i := 72) rfl) rfl
theorem me_265 : mx_Me (tB l D b0 ad Hb tau) 265 mn_265 prog_14_method_113_code 4 (Option.some Jvm.ClassFile.FieldType.int) 2 := mx_MeOf (tab := tb_265) tbig_good (by decide) rfl mc_265 (tin_1 (List.mem_of_getElem? (i := 13) (by decide +kernel)) rfl) ⟨by decide +kernel, by decide +kernel, by decide +kernel⟩ (by decide)
theorem mc_266 : Cond.code mn_266 prog_14_method_114_code 5 (Option.some Jvm.ClassFile.FieldType.int) ∈ tbig := tin_8 (List.mem_of_getElem? (i := 76) rfl) rfl
theorem me_266 : mx_Me (tB l D b0 ad Hb tau) 266 mn_266 prog_14_method_114_code 5 (Option.some Jvm.ClassFile.FieldType.int) 1 := mx_MeOf (tab := tb_266) tbig_good (by decide) rfl mc_266 (tin_1 (List.mem_of_getElem? (i := 13) (by decide +kernel)) rfl) ⟨by decide +kernel, by decide +kernel, by decide +kernel⟩ (by decide)
theorem mc_267 : Cond.code mn_267 prog_14_method_115_code 6 (Option.some Jvm.ClassFile.FieldType.int) ∈ tbig := tin_8 (List.mem_of_getElem? (i := 68) rfl) rfl
theorem me_267 : mx_Me (tB l D b0 ad Hb tau) 267 mn_267 prog_14_method_115_code 6 (Option.some Jvm.ClassFile.FieldType.int) 1 := mx_MeOf (tab := tb_267) tbig_good (by decide) rfl mc_267 (tin_1 (List.mem_of_getElem? (i := 13) (by decide +kernel)) rfl) ⟨by decide +kernel, by decide +kernel, by decide +kernel⟩ (by decide)
theorem mc_271 : Cond.code mn_271 prog_14_method_119_code 5 (Option.none : Option Jvm.ClassFile.FieldType) ∈ tbig := tin_8 (List.mem_of_getElem? (i := 93) rfl) rfl
theorem me_271 : mx_Me (tB l D b0 ad Hb tau) 271 mn_271 prog_14_method_119_code 5 (Option.none : Option Jvm.ClassFile.FieldType) 1 := mx_MeOf (tab := tb_271) tbig_good (by decide) rfl mc_271 (tin_1 (List.mem_of_getElem? (i := 13) (by decide +kernel)) rfl) ⟨by decide +kernel, by decide +kernel, by decide +kernel⟩ (by decide)
theorem mc_272 : Cond.code mn_272 prog_14_method_120_code 4 (Option.some Jvm.ClassFile.FieldType.long) ∈ tbig := tin_8 (List.mem_of_getElem? (i := 96) rfl) rfl
theorem me_272 : mx_Me (tB l D b0 ad Hb tau) 272 mn_272 prog_14_method_120_code 4 (Option.some Jvm.ClassFile.FieldType.long) 1 := mx_MeOf (tab := tb_272) tbig_good (by decide) rfl mc_272 (tin_1 (List.mem_of_getElem? (i := 13) (by decide +kernel)) rfl) ⟨by decide +kernel, by decide +kernel, by decide +kernel⟩ (by decide)
theorem mc_273 : Cond.code mn_273 prog_14_method_121_code 4 (Option.some Jvm.ClassFile.FieldType.long) ∈ tbig := tin_8 (List.mem_of_getElem? (i := 102) rfl) rfl
theorem me_273 : mx_Me (tB l D b0 ad Hb tau) 273 mn_273 prog_14_method_121_code 4 (Option.some Jvm.ClassFile.FieldType.long) 2 := mx_MeOf (tab := tb_273) tbig_good (by decide) rfl mc_273 (tin_1 (List.mem_of_getElem? (i := 13) (by decide +kernel)) rfl) ⟨by decide +kernel, by decide +kernel, by decide +kernel⟩ (by decide)
theorem mc_274 : Cond.code mn_274 prog_14_method_122_code 5 (Option.some Jvm.ClassFile.FieldType.int) ∈ tbig := tin_8 (List.mem_of_getElem? (i := 99) rfl) rfl
theorem me_274 : mx_Me (tB l D b0 ad Hb tau) 274 mn_274 prog_14_method_122_code 5 (Option.some Jvm.ClassFile.FieldType.int) 3 := mx_MeOf (tab := tb_274) tbig_good (by decide) rfl mc_274 (tin_1 (List.mem_of_getElem? (i := 13) (by decide +kernel)) rfl) ⟨by decide +kernel, by decide +kernel, by decide +kernel⟩ (by decide)
theorem mc_277 : Cond.code mn_277 prog_14_method_125_code 3 (Option.some Jvm.ClassFile.FieldType.long) ∈ tbig := tin_8 (List.mem_of_getElem? (i := 118) rfl) rfl
theorem me_277 : mx_Me (tB l D b0 ad Hb tau) 277 mn_277 prog_14_method_125_code 3 (Option.some Jvm.ClassFile.FieldType.long) 2 := mx_MeOf (tab := tb_277) tbig_good (by decide) rfl mc_277 (tin_1 (List.mem_of_getElem? (i := 13) (by decide +kernel)) rfl) ⟨by decide +kernel, by decide +kernel, by decide +kernel⟩ (by decide)
theorem mc_284 : Cond.code mn_284 prog_22_method_103_code 4 (Option.none : Option Jvm.ClassFile.FieldType) ∈ tbig := tin_2 (List.mem_of_getElem? (i := 210) rfl) rfl
theorem me_284 : mx_Me (tB l D b0 ad Hb tau) 284 mn_284 prog_22_method_103_code 4 (Option.none : Option Jvm.ClassFile.FieldType) 2 := mx_MeOf (tab := tb_284) tbig_good (by decide) rfl mc_284 (tin_1 (List.mem_of_getElem? (i := 14) (by decide +kernel)) rfl) ⟨by decide +kernel, by decide +kernel, by decide +kernel⟩ (by decide)
theorem mc_285 : Cond.code mn_285 prog_22_method_101_code 5 (Option.none : Option Jvm.ClassFile.FieldType) ∈ tbig := tin_5 (List.mem_of_getElem? (i := 160) rfl) rfl
theorem me_285 : mx_Me (tB l D b0 ad Hb tau) 285 mn_285 prog_22_method_101_code 5 (Option.none : Option Jvm.ClassFile.FieldType) 2 := mx_MeOf (tab := tb_285) tbig_good (by decide) rfl mc_285 (tin_1 (List.mem_of_getElem? (i := 14) (by decide +kernel)) rfl) ⟨by decide +kernel, by decide +kernel, by decide +kernel⟩ (by decide)
theorem mc_286 : Cond.code mn_286 prog_23_method_11_code 3 (Option.some Jvm.ClassFile.FieldType.int) ∈ tbig := tin_3 (List.mem_of_getElem? (i := 12) rfl) rfl
theorem me_286 : mx_Me (tB l D b0 ad Hb tau) 286 mn_286 prog_23_method_11_code 3 (Option.some Jvm.ClassFile.FieldType.int) 3 := mx_MeOf (tab := tb_286) tbig_good (by decide) rfl mc_286 (tin_1 (List.mem_of_getElem? (i := 17) (by decide +kernel)) rfl) ⟨by decide +kernel, by decide +kernel, by decide +kernel⟩ (by decide)
theorem mc_287 : Cond.code mn_287 prog_18_method_155_code 2 (Option.none : Option Jvm.ClassFile.FieldType) ∈ tbig := tin_3 (List.mem_of_getElem? (i := 7) rfl) rfl
theorem me_287 : mx_Me (tB l D b0 ad Hb tau) 287 mn_287 prog_18_method_155_code 2 (Option.none : Option Jvm.ClassFile.FieldType) 2 := mx_MeOf (tab := tb_287) tbig_good (by decide) rfl mc_287 (tin_1 (List.mem_of_getElem? (i := 15) (by decide +kernel)) rfl) ⟨by decide +kernel, by decide +kernel, by decide +kernel⟩ (by decide)
theorem mc_288 : Cond.code mn_288 prog_19_method_2_code 2 (Option.some Jvm.ClassFile.FieldType.char) ∈ tbig := tin_3 (List.mem_of_getElem? (i := 4) rfl) rfl
theorem me_288 : mx_Me (tB l D b0 ad Hb tau) 288 mn_288 prog_19_method_2_code 2 (Option.some Jvm.ClassFile.FieldType.char) 2 := mx_MeOf (tab := tb_288) tbig_good (by decide) rfl mc_288 (tin_1 (List.mem_of_getElem? (i := 16) (by decide +kernel)) rfl) ⟨by decide +kernel, by decide +kernel, by decide +kernel⟩ (by decide)
theorem mc_289 : Cond.code mn_289 prog_18_method_154_code 1 (Option.some Jvm.ClassFile.FieldType.boolean) ∈ tbig := tin_3 (List.mem_of_getElem? (i := 1) rfl) rfl
theorem me_289 : mx_Me (tB l D b0 ad Hb tau) 289 mn_289 prog_18_method_154_code 1 (Option.some Jvm.ClassFile.FieldType.boolean) 0 := mx_MeOf (tab := tb_289) tbig_good (by decide) rfl mc_289 (tin_1 (List.mem_of_getElem? (i := 15) (by decide +kernel)) rfl) ⟨by decide +kernel, by decide +kernel, by decide +kernel⟩ (by decide)
theorem mc_290 : Cond.code mn_290 prog_18_method_152_code 1 (Option.some Jvm.ClassFile.FieldType.byte) ∈ tbig := tin_2 (List.mem_of_getElem? (i := 231) rfl) rfl
theorem me_290 : mx_Me (tB l D b0 ad Hb tau) 290 mn_290 prog_18_method_152_code 1 (Option.some Jvm.ClassFile.FieldType.byte) 0 := mx_MeOf (tab := tb_290) tbig_good (by decide) rfl mc_290 (tin_1 (List.mem_of_getElem? (i := 15) (by decide +kernel)) rfl) ⟨by decide +kernel, by decide +kernel, by decide +kernel⟩ (by decide)
theorem mc_291 : Cond.code mn_291 prog_18_method_54_code 1 (Option.some Jvm.ClassFile.FieldType.int) ∈ tbig := tin_2 (List.mem_of_getElem? (i := 227) rfl) rfl
theorem me_291 : mx_Me (tB l D b0 ad Hb tau) 291 mn_291 prog_18_method_54_code 1 (Option.some Jvm.ClassFile.FieldType.int) 0 := mx_MeOf (tab := tb_291) tbig_good (by decide) rfl mc_291 (tin_1 (List.mem_of_getElem? (i := 15) (by decide +kernel)) rfl) ⟨by decide +kernel, by decide +kernel, by decide +kernel⟩ (by decide)
theorem mc_292 : Cond.code mn_292 prog_18_method_56_code 2 (Option.some Jvm.ClassFile.FieldType.char) ∈ tbig := tin_2 (List.mem_of_getElem? (i := 237) rfl) rfl
theorem me_292 : mx_Me (tB l D b0 ad Hb tau) 292 mn_292 prog_18_method_56_code 2 (Option.some Jvm.ClassFile.FieldType.char) 1 := mx_MeOf (tab := tb_292) tbig_good (by decide) rfl mc_292 (tin_1 (List.mem_of_getElem? (i := 15) (by decide +kernel)) rfl) ⟨by decide +kernel, by decide +kernel, by decide +kernel⟩ (by decide)
theorem mc_293 : Cond.code mn_293 prog_19_method_4_code 1 (Option.some Jvm.ClassFile.FieldType.boolean) ∈ tbig := tin_3 (List.mem_of_getElem? (i := 51) rfl) rfl
theorem me_293 : mx_Me (tB l D b0 ad Hb tau) 293 mn_293 prog_19_method_4_code 1 (Option.some Jvm.ClassFile.FieldType.boolean) 1 := mx_MeOf (tab := tb_293) tbig_good (by decide) rfl mc_293 (tin_1 (List.mem_of_getElem? (i := 16) (by decide +kernel)) rfl) ⟨by decide +kernel, by decide +kernel, by decide +kernel⟩ (by decide)
theorem mc_294 : Cond.code mn_294 prog_19_method_23_code 6 (Option.some Jvm.ClassFile.FieldType.int) ∈ tbig := tin_3 (List.mem_of_getElem? (i := 56) rfl) rfl
theorem me_294 : mx_Me (tB l D b0 ad Hb tau) 294 mn_294 prog_19_method_23_code 6 (Option.some Jvm.ClassFile.FieldType.int) 4 := mx_MeOf (tab := tb_294) tbig_good (by decide) rfl mc_294 (tin_1 (List.mem_of_getElem? (i := 16) (by decide +kernel)) rfl) ⟨by decide +kernel, by decide +kernel, by decide +kernel⟩ (by decide)
theorem mc_295 : Cond.code mn_295 prog_19_method_22_code 4 (Option.some Jvm.ClassFile.FieldType.int) ∈ tbig := tin_3 (List.mem_of_getElem? (i := 48) rfl) rfl
theorem me_295 : mx_Me (tB l D b0 ad Hb tau) 295 mn_295 prog_19_method_22_code 4 (Option.some Jvm.ClassFile.FieldType.int) 4 := mx_MeOf (tab := tb_295) tbig_good (by decide) rfl mc_295 (tin_1 (List.mem_of_getElem? (i := 16) (by decide +kernel)) rfl) ⟨by decide +kernel, by decide +kernel, by decide +kernel⟩ (by decide)
theorem mc_296 : Cond.code mn_296 prog_18_method_80_code 3 (Option.some Jvm.ClassFile.FieldType.int) ∈ tbig := tin_3 (List.mem_of_getElem? (i := 44) rfl) rfl
theorem me_296 : mx_Me (tB l D b0 ad Hb tau) 296 mn_296 prog_18_method_80_code 3 (Option.some Jvm.ClassFile.FieldType.int) 2 := mx_MeOf (tab := tb_296) tbig_good (by decide) rfl mc_296 (tin_1 (List.mem_of_getElem? (i := 15) (by decide +kernel)) rfl) ⟨by decide +kernel, by decide +kernel, by decide +kernel⟩ (by decide)
theorem mc_297 : Cond.code mn_297 prog_18_method_79_code 2 (Option.some Jvm.ClassFile.FieldType.int) ∈ tbig := tin_3 (List.mem_of_getElem? (i := 40) rfl) rfl
theorem me_297 : mx_Me (tB l D b0 ad Hb tau) 297 mn_297 prog_18_method_79_code 2 (Option.some Jvm.ClassFile.FieldType.int) 1 := mx_MeOf (tab := tb_297) tbig_good (by decide) rfl mc_297 (tin_1 (List.mem_of_getElem? (i := 15) (by decide +kernel)) rfl) ⟨by decide +kernel, by decide +kernel, by decide +kernel⟩ (by decide)
theorem mc_298 : Cond.code mn_298 prog_22_method_123_code 3 (Option.some (Jvm.ClassFile.FieldType.array Jvm.ClassFile.FieldType.int)) ∈ tbig := tin_3 (List.mem_of_getElem? (i := 158) rfl) rfl
theorem me_298 : mx_Me (tB l D b0 ad Hb tau) 298 mn_298 prog_22_method_123_code 3 (Option.some (Jvm.ClassFile.FieldType.array Jvm.ClassFile.FieldType.int)) 2 := mx_MeOf (tab := tb_298) tbig_good (by decide) rfl mc_298 (tin_1 (List.mem_of_getElem? (i := 14) (by decide +kernel)) rfl) ⟨by decide +kernel, by decide +kernel, by decide +kernel⟩ (by decide)
end TB
