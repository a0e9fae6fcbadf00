/-! the links are words of the tables (printed by wip/whole/gen08.py) -/
def gtb : List Cond := lw_tbl.filter goodWord
theorem gw {w : Cond} (h : w ∈ lw_tbl) (g : goodWord w = true) : w ∈ gtb := List.mem_filter.mpr ⟨h, g⟩
def fkd (c k : Nat) : Nat := (fkL.getD c []).getD k 0
def tyK (kd : Nat) (t : FieldType) : Bool := match kd, t with
  | 0, .int => true
  | 1, .boolean => true
  | 2, .object _ => true
  | 2, .array _ => true
  | 3, .long => true
  | _, _ => false
def retK (t : Option FieldType) : Nat := match t with
  | none => 0
  | some .long => 3
  | some (.object _) => 2
  | some (.array _) => 2
  | some _ => 1
def CPr (ci : Nat) (q : vw_C) (ty : Nat → FieldType) : Prop := (∀ w ∈ u_ws q.1 q.2.1 q.2.2, w ∈ gtb) ∧ (∀ a, a < q.2.2 → ∀ b, b < q.2.2 → a ≠ b → (q.2.1 a).2.1 ≠ (q.2.1 b).2.1) ∧ Jvm.Cond.instantiable q.1 q.2.2 ∈ gtb ∧ Jvm.Cond.initialized q.1 ∈ gtb ∧ (∀ k, k < q.2.2 → parseFieldDescriptor (q.2.1 k).2.2.1 = some (ty k)) ∧ (∀ k, k < q.2.2 → tyK (fkd ci k) (ty k) = true) ∧ (∀ k, k < q.2.2 → (q.2.1 k).1 = q.1)
theorem cpw_0 : u_ws "OneAtATime$BitList" kT0 7 = [73, 75, 77, 79, 81, 83, 85].filterMap (fun i => tables_1[i]?) := by decide +kernel
set_option maxRecDepth 100000 in
theorem cp_0 : CPr 0 ("OneAtATime$BitList", kT0, 7) kY0 := by
  refine ⟨fun w h => ?_, by decide +kernel, (gw (List.mem_append_right _ (List.mem_append_left _ (List.mem_of_getElem? (l := tables_1_1) (i := 31) rfl))) rfl), (gw (List.mem_append_right _ (List.mem_append_left _ (List.mem_of_getElem? (l := tables_1_1) (i := 2) rfl))) rfl), by decide +kernel, by decide +kernel, by decide +kernel⟩
  have h : w ∈ u_ws "OneAtATime$BitList" kT0 7 := h
  rw [cpw_0] at h
  obtain ⟨i, -, hi⟩ := List.mem_filterMap.mp h
  refine gw (List.mem_append_right _ (List.mem_of_getElem? hi)) ?_
  rw [← cpw_0] at h
  obtain ⟨k, -, hk⟩ := List.mem_map.mp h
  rw [← hk]
  unfold u_lay
  split <;> rfl
theorem cpw_1 : u_ws "OneAtATime$Bytes" kT1 2 = [130, 132].filterMap (fun i => tables_1[i]?) := by decide +kernel
set_option maxRecDepth 100000 in
theorem cp_1 : CPr 1 ("OneAtATime$Bytes", kT1, 2) kY1 := by
  refine ⟨fun w h => ?_, by decide +kernel, (gw (List.mem_append_right _ (List.mem_append_left _ (List.mem_of_getElem? (l := tables_1_1) (i := 118) rfl))) rfl), (gw (List.mem_append_right _ (List.mem_append_left _ (List.mem_of_getElem? (l := tables_1_1) (i := 5) rfl))) rfl), by decide +kernel, by decide +kernel, by decide +kernel⟩
  have h : w ∈ u_ws "OneAtATime$Bytes" kT1 2 := h
  rw [cpw_1] at h
  obtain ⟨i, -, hi⟩ := List.mem_filterMap.mp h
  refine gw (List.mem_append_right _ (List.mem_of_getElem? hi)) ?_
  rw [← cpw_1] at h
  obtain ⟨k, -, hk⟩ := List.mem_map.mp h
  rw [← hk]
  unfold u_lay
  split <;> rfl
theorem cpw_2 : u_ws "OneAtATime$Evenness" kT2 5 = [224, 226, 228, 230, 232].filterMap (fun i => tables_1[i]?) := by decide +kernel
set_option maxRecDepth 100000 in
theorem cp_2 : CPr 2 ("OneAtATime$Evenness", kT2, 5) kY2 := by
  refine ⟨fun w h => ?_, by decide +kernel, (gw (List.mem_append_right _ (List.mem_append_left _ (List.mem_of_getElem? (l := tables_1_1) (i := 212) rfl))) rfl), (gw (List.mem_append_right _ (List.mem_append_left _ (List.mem_of_getElem? (l := tables_1_1) (i := 10) rfl))) rfl), by decide +kernel, by decide +kernel, by decide +kernel⟩
  have h : w ∈ u_ws "OneAtATime$Evenness" kT2 5 := h
  rw [cpw_2] at h
  obtain ⟨i, -, hi⟩ := List.mem_filterMap.mp h
  refine gw (List.mem_append_right _ (List.mem_of_getElem? hi)) ?_
  rw [← cpw_2] at h
  obtain ⟨k, -, hk⟩ := List.mem_map.mp h
  rw [← hk]
  unfold u_lay
  split <;> rfl
theorem cpw_3 : u_ws "OneAtATime$History" kT3 4 = [102, 104, 106, 108].filterMap (fun i => tables_1[i]?) := by decide +kernel
set_option maxRecDepth 100000 in
theorem cp_3 : CPr 3 ("OneAtATime$History", kT3, 4) kY3 := by
  refine ⟨fun w h => ?_, by decide +kernel, (gw (List.mem_append_right _ (List.mem_append_left _ (List.mem_of_getElem? (l := tables_1_1) (i := 90) rfl))) rfl), (gw (List.mem_append_right _ (List.mem_append_left _ (List.mem_of_getElem? (l := tables_1_1) (i := 3) rfl))) rfl), by decide +kernel, by decide +kernel, by decide +kernel⟩
  have h : w ∈ u_ws "OneAtATime$History" kT3 4 := h
  rw [cpw_3] at h
  obtain ⟨i, -, hi⟩ := List.mem_filterMap.mp h
  refine gw (List.mem_append_right _ (List.mem_of_getElem? hi)) ?_
  rw [← cpw_3] at h
  obtain ⟨k, -, hk⟩ := List.mem_map.mp h
  rw [← hk]
  unfold u_lay
  split <;> rfl
theorem cpw_4 : u_ws "OneAtATime$Likeness" kT4 2 = [206, 208].filterMap (fun i => tables_1[i]?) := by decide +kernel
set_option maxRecDepth 100000 in
theorem cp_4 : CPr 4 ("OneAtATime$Likeness", kT4, 2) kY4 := by
  refine ⟨fun w h => ?_, by decide +kernel, (gw (List.mem_append_right _ (List.mem_append_left _ (List.mem_of_getElem? (l := tables_1_1) (i := 199) rfl))) rfl), (gw (List.mem_append_right _ (List.mem_append_left _ (List.mem_of_getElem? (l := tables_1_1) (i := 9) rfl))) rfl), by decide +kernel, by decide +kernel, by decide +kernel⟩
  have h : w ∈ u_ws "OneAtATime$Likeness" kT4 2 := h
  rw [cpw_4] at h
  obtain ⟨i, -, hi⟩ := List.mem_filterMap.mp h
  refine gw (List.mem_append_right _ (List.mem_of_getElem? hi)) ?_
  rw [← cpw_4] at h
  obtain ⟨k, -, hk⟩ := List.mem_map.mp h
  rw [← hk]
  unfold u_lay
  split <;> rfl
theorem cpw_5 : u_ws "OneAtATime$Reader" kT5 6 = [145, 147, 149, 151, 153, 155].filterMap (fun i => tables_1[i]?) := by decide +kernel
set_option maxRecDepth 100000 in
theorem cp_5 : CPr 5 ("OneAtATime$Reader", kT5, 6) kY5 := by
  refine ⟨fun w h => ?_, by decide +kernel, (gw (List.mem_append_right _ (List.mem_append_left _ (List.mem_of_getElem? (l := tables_1_1) (i := 112) rfl))) rfl), (gw (List.mem_append_right _ (List.mem_append_left _ (List.mem_of_getElem? (l := tables_1_1) (i := 4) rfl))) rfl), by decide +kernel, by decide +kernel, by decide +kernel⟩
  have h : w ∈ u_ws "OneAtATime$Reader" kT5 6 := h
  rw [cpw_5] at h
  obtain ⟨i, -, hi⟩ := List.mem_filterMap.mp h
  refine gw (List.mem_append_right _ (List.mem_of_getElem? hi)) ?_
  rw [← cpw_5] at h
  obtain ⟨k, -, hk⟩ := List.mem_map.mp h
  rw [← hk]
  unfold u_lay
  split <;> rfl
theorem cpw_6 : u_ws "OneAtATime$Search" kT6 3 = [191, 193, 195].filterMap (fun i => tables_1[i]?) := by decide +kernel
set_option maxRecDepth 100000 in
theorem cp_6 : CPr 6 ("OneAtATime$Search", kT6, 3) kY6 := by
  refine ⟨fun w h => ?_, by decide +kernel, (gw (List.mem_append_right _ (List.mem_append_left _ (List.mem_of_getElem? (l := tables_1_1) (i := 183) rfl))) rfl), (gw (List.mem_append_right _ (List.mem_append_left _ (List.mem_of_getElem? (l := tables_1_1) (i := 8) rfl))) rfl), by decide +kernel, by decide +kernel, by decide +kernel⟩
  have h : w ∈ u_ws "OneAtATime$Search" kT6 3 := h
  rw [cpw_6] at h
  obtain ⟨i, -, hi⟩ := List.mem_filterMap.mp h
  refine gw (List.mem_append_right _ (List.mem_of_getElem? hi)) ?_
  rw [← cpw_6] at h
  obtain ⟨k, -, hk⟩ := List.mem_map.mp h
  rw [← hk]
  unfold u_lay
  split <;> rfl
theorem cpw_7 : u_ws "OneAtATime$Survey" kT7 5 = [171, 173, 175, 177, 179].filterMap (fun i => tables_1[i]?) := by decide +kernel
set_option maxRecDepth 100000 in
theorem cp_7 : CPr 7 ("OneAtATime$Survey", kT7, 5) kY7 := by
  refine ⟨fun w h => ?_, by decide +kernel, (gw (List.mem_append_right _ (List.mem_append_left _ (List.mem_of_getElem? (l := tables_1_1) (i := 161) rfl))) rfl), (gw (List.mem_append_right _ (List.mem_append_left _ (List.mem_of_getElem? (l := tables_1_1) (i := 7) rfl))) rfl), by decide +kernel, by decide +kernel, by decide +kernel⟩
  have h : w ∈ u_ws "OneAtATime$Survey" kT7 5 := h
  rw [cpw_7] at h
  obtain ⟨i, -, hi⟩ := List.mem_filterMap.mp h
  refine gw (List.mem_append_right _ (List.mem_of_getElem? hi)) ?_
  rw [← cpw_7] at h
  obtain ⟨k, -, hk⟩ := List.mem_map.mp h
  rw [← hk]
  unfold u_lay
  split <;> rfl
theorem cpw_8 : u_ws "OneAtATime" kT8 9 = [244, 246, 248, 250, 252, 254, 256, 258, 260].filterMap (fun i => tables_1[i]?) := by decide +kernel
set_option maxRecDepth 100000 in
theorem cp_8 : CPr 8 ("OneAtATime", kT8, 9) kY8 := by
  refine ⟨fun w h => ?_, by decide +kernel, (gw (List.mem_append_right _ (List.mem_append_left _ (List.mem_of_getElem? (l := tables_1_1) (i := 22) rfl))) rfl), (gw (List.mem_append_right _ (List.mem_append_left _ (List.mem_of_getElem? (l := tables_1_1) (i := 1) rfl))) rfl), by decide +kernel, by decide +kernel, by decide +kernel⟩
  have h : w ∈ u_ws "OneAtATime" kT8 9 := h
  rw [cpw_8] at h
  obtain ⟨i, -, hi⟩ := List.mem_filterMap.mp h
  refine gw (List.mem_append_right _ (List.mem_of_getElem? hi)) ?_
  rw [← cpw_8] at h
  obtain ⟨k, -, hk⟩ := List.mem_map.mp h
  rw [← hk]
  unfold u_lay
  split <;> rfl
theorem cpw_9 : u_ws "OneAtATimeModel" kT9 29 = [1044, 1046, 1048, 1050, 1052, 1054, 1056, 1058, 1060, 1062, 1064, 1066, 1068, 1070, 1072, 1074, 1076, 1078, 1080, 1082, 1084, 1086, 1088, 1090, 1092, 1094, 1096, 1098, 1100].filterMap (fun i => tables_1[i]?) := by decide +kernel
set_option maxRecDepth 100000 in
theorem cp_9 : CPr 9 ("OneAtATimeModel", kT9, 29) kY9 := by
  refine ⟨fun w h => ?_, by decide +kernel, (gw (List.mem_append_right _ (List.mem_append_right _ (List.mem_append_right _ (List.mem_append_right _ (List.mem_append_right _ (List.mem_append_left _ (List.mem_of_getElem? (l := tables_1_5) (i := 50) rfl))))))) rfl), (gw (List.mem_append_right _ (List.mem_append_left _ (List.mem_of_getElem? (l := tables_1_1) (i := 11) rfl))) rfl), by decide +kernel, by decide +kernel, by decide +kernel⟩
  have h : w ∈ u_ws "OneAtATimeModel" kT9 29 := h
  rw [cpw_9] at h
  obtain ⟨i, -, hi⟩ := List.mem_filterMap.mp h
  refine gw (List.mem_append_right _ (List.mem_of_getElem? hi)) ?_
  rw [← cpw_9] at h
  obtain ⟨k, -, hk⟩ := List.mem_map.mp h
  rw [← hk]
  unfold u_lay
  split <;> rfl
theorem cls_ok : ∀ (ci : Nat) (q : vw_C), cls0[ci]? = some q → ∃ ty, CPr ci q ty := by
  intro ci q h
  match ci, h with
  | 0, h => exact ⟨kY0, Option.some.inj h ▸ cp_0⟩
  | 1, h => exact ⟨kY1, Option.some.inj h ▸ cp_1⟩
  | 2, h => exact ⟨kY2, Option.some.inj h ▸ cp_2⟩
  | 3, h => exact ⟨kY3, Option.some.inj h ▸ cp_3⟩
  | 4, h => exact ⟨kY4, Option.some.inj h ▸ cp_4⟩
  | 5, h => exact ⟨kY5, Option.some.inj h ▸ cp_5⟩
  | 6, h => exact ⟨kY6, Option.some.inj h ▸ cp_6⟩
  | 7, h => exact ⟨kY7, Option.some.inj h ▸ cp_7⟩
  | 8, h => exact ⟨kY8, Option.some.inj h ▸ cp_8⟩
  | 9, h => exact ⟨kY9, Option.some.inj h ▸ cp_9⟩
  | k + 10, h => exact absurd h (by simp [cls0])
def FPr (e : Nat × Nat × Nat × Nat × Nat) : Prop := ∃ (own : String) (q : vw_C), ownL[e.1]? = some own ∧ cls0[e.2.2.1]? = some q ∧ e.2.2.2.1 < q.2.2 ∧ Jvm.Cond.fieldLink own e.2.1 (q.2.1 e.2.2.2.1).1 (q.2.1 e.2.2.2.1).2.1 (q.2.1 e.2.2.2.1).2.2.1 ∈ gtb ∧ fkd e.2.2.1 e.2.2.2.1 = e.2.2.2.2
set_option maxRecDepth 100000 in
theorem fl_0 : FPr (0, 11, 8, 0, 2) := ⟨"OneAtATime", ("OneAtATime", kT8, 9), rfl, rfl, Nat.le_of_ble_eq_true rfl, (gw (List.mem_append_right _ (List.mem_append_left _ (List.mem_of_getElem? (l := tables_1_1) (i := 235) rfl))) rfl), rfl⟩
set_option maxRecDepth 100000 in
theorem fl_1 : FPr (0, 16, 8, 1, 2) := ⟨"OneAtATime", ("OneAtATime", kT8, 9), rfl, rfl, Nat.le_of_ble_eq_true rfl, (gw (List.mem_append_right _ (List.mem_append_left _ (List.mem_of_getElem? (l := tables_1_1) (i := 236) rfl))) rfl), rfl⟩
set_option maxRecDepth 100000 in
theorem fl_2 : FPr (0, 23, 8, 2, 2) := ⟨"OneAtATime", ("OneAtATime", kT8, 9), rfl, rfl, Nat.le_of_ble_eq_true rfl, (gw (List.mem_append_right _ (List.mem_append_left _ (List.mem_of_getElem? (l := tables_1_1) (i := 237) rfl))) rfl), rfl⟩
set_option maxRecDepth 100000 in
theorem fl_3 : FPr (0, 30, 8, 3, 2) := ⟨"OneAtATime", ("OneAtATime", kT8, 9), rfl, rfl, Nat.le_of_ble_eq_true rfl, (gw (List.mem_append_right _ (List.mem_append_left _ (List.mem_of_getElem? (l := tables_1_1) (i := 238) rfl))) rfl), rfl⟩
set_option maxRecDepth 100000 in
theorem fl_4 : FPr (0, 39, 8, 4, 2) := ⟨"OneAtATime", ("OneAtATime", kT8, 9), rfl, rfl, Nat.le_of_ble_eq_true rfl, (gw (List.mem_append_right _ (List.mem_append_left _ (List.mem_of_getElem? (l := tables_1_1) (i := 239) rfl))) rfl), rfl⟩
set_option maxRecDepth 100000 in
theorem fl_5 : FPr (0, 46, 8, 5, 2) := ⟨"OneAtATime", ("OneAtATime", kT8, 9), rfl, rfl, Nat.le_of_ble_eq_true rfl, (gw (List.mem_append_right _ (List.mem_append_right _ (List.mem_append_left _ (List.mem_of_getElem? (l := tables_1_2) (i := 0) rfl)))) rfl), rfl⟩
set_option maxRecDepth 100000 in
theorem fl_6 : FPr (0, 53, 8, 6, 2) := ⟨"OneAtATime", ("OneAtATime", kT8, 9), rfl, rfl, Nat.le_of_ble_eq_true rfl, (gw (List.mem_append_right _ (List.mem_append_right _ (List.mem_append_left _ (List.mem_of_getElem? (l := tables_1_2) (i := 1) rfl)))) rfl), rfl⟩
set_option maxRecDepth 100000 in
theorem fl_7 : FPr (0, 60, 8, 7, 2) := ⟨"OneAtATime", ("OneAtATime", kT8, 9), rfl, rfl, Nat.le_of_ble_eq_true rfl, (gw (List.mem_append_right _ (List.mem_append_right _ (List.mem_append_left _ (List.mem_of_getElem? (l := tables_1_2) (i := 2) rfl)))) rfl), rfl⟩
set_option maxRecDepth 100000 in
theorem fl_8 : FPr (0, 67, 8, 8, 2) := ⟨"OneAtATime", ("OneAtATime", kT8, 9), rfl, rfl, Nat.le_of_ble_eq_true rfl, (gw (List.mem_append_right _ (List.mem_append_right _ (List.mem_append_left _ (List.mem_of_getElem? (l := tables_1_2) (i := 3) rfl)))) rfl), rfl⟩
set_option maxRecDepth 100000 in
theorem fl_9 : FPr (1, 9, 0, 0, 2) := ⟨"OneAtATime$BitList", ("OneAtATime$BitList", kT0, 7), rfl, rfl, Nat.le_of_ble_eq_true rfl, (gw (List.mem_append_right _ (List.mem_append_left _ (List.mem_of_getElem? (l := tables_1_1) (i := 36) rfl))) rfl), rfl⟩
set_option maxRecDepth 100000 in
theorem fl_10 : FPr (1, 15, 0, 1, 2) := ⟨"OneAtATime$BitList", ("OneAtATime$BitList", kT0, 7), rfl, rfl, Nat.le_of_ble_eq_true rfl, (gw (List.mem_append_right _ (List.mem_append_left _ (List.mem_of_getElem? (l := tables_1_1) (i := 43) rfl))) rfl), rfl⟩
set_option maxRecDepth 100000 in
theorem fl_11 : FPr (1, 18, 0, 2, 1) := ⟨"OneAtATime$BitList", ("OneAtATime$BitList", kT0, 7), rfl, rfl, Nat.le_of_ble_eq_true rfl, (gw (List.mem_append_right _ (List.mem_append_left _ (List.mem_of_getElem? (l := tables_1_1) (i := 49) rfl))) rfl), rfl⟩
set_option maxRecDepth 100000 in
theorem fl_12 : FPr (2, 11, 3, 0, 2) := ⟨"OneAtATime$History", ("OneAtATime$History", kT3, 4), rfl, rfl, Nat.le_of_ble_eq_true rfl, (gw (List.mem_append_right _ (List.mem_append_left _ (List.mem_of_getElem? (l := tables_1_1) (i := 97) rfl))) rfl), rfl⟩
set_option maxRecDepth 100000 in
theorem fl_13 : FPr (2, 18, 3, 1, 2) := ⟨"OneAtATime$History", ("OneAtATime$History", kT3, 4), rfl, rfl, Nat.le_of_ble_eq_true rfl, (gw (List.mem_append_right _ (List.mem_append_left _ (List.mem_of_getElem? (l := tables_1_1) (i := 98) rfl))) rfl), rfl⟩
set_option maxRecDepth 100000 in
theorem fl_14 : FPr (2, 22, 3, 2, 0) := ⟨"OneAtATime$History", ("OneAtATime$History", kT3, 4), rfl, rfl, Nat.le_of_ble_eq_true rfl, (gw (List.mem_append_right _ (List.mem_append_left _ (List.mem_of_getElem? (l := tables_1_1) (i := 99) rfl))) rfl), rfl⟩
set_option maxRecDepth 100000 in
theorem fl_15 : FPr (2, 26, 3, 3, 0) := ⟨"OneAtATime$History", ("OneAtATime$History", kT3, 4), rfl, rfl, Nat.le_of_ble_eq_true rfl, (gw (List.mem_append_right _ (List.mem_append_left _ (List.mem_of_getElem? (l := tables_1_1) (i := 100) rfl))) rfl), rfl⟩
set_option maxRecDepth 100000 in
theorem fl_16 : FPr (3, 14, 5, 0, 2) := ⟨"OneAtATime$Reader", ("OneAtATime$Reader", kT5, 6), rfl, rfl, Nat.le_of_ble_eq_true rfl, (gw (List.mem_append_right _ (List.mem_append_left _ (List.mem_of_getElem? (l := tables_1_1) (i := 136) rfl))) rfl), rfl⟩
set_option maxRecDepth 100000 in
theorem fl_17 : FPr (3, 20, 5, 4, 0) := ⟨"OneAtATime$Reader", ("OneAtATime$Reader", kT5, 6), rfl, rfl, Nat.le_of_ble_eq_true rfl, (gw (List.mem_append_right _ (List.mem_append_left _ (List.mem_of_getElem? (l := tables_1_1) (i := 141) rfl))) rfl), rfl⟩
set_option maxRecDepth 100000 in
theorem fl_18 : FPr (3, 24, 5, 5, 0) := ⟨"OneAtATime$Reader", ("OneAtATime$Reader", kT5, 6), rfl, rfl, Nat.le_of_ble_eq_true rfl, (gw (List.mem_append_right _ (List.mem_append_left _ (List.mem_of_getElem? (l := tables_1_1) (i := 143) rfl))) rfl), rfl⟩
set_option maxRecDepth 100000 in
theorem fl_19 : FPr (4, 15, 1, 0, 2) := ⟨"OneAtATime$Bytes", ("OneAtATime$Bytes", kT1, 2), rfl, rfl, Nat.le_of_ble_eq_true rfl, (gw (List.mem_append_right _ (List.mem_append_left _ (List.mem_of_getElem? (l := tables_1_1) (i := 126) rfl))) rfl), rfl⟩
set_option maxRecDepth 100000 in
theorem fl_20 : FPr (4, 21, 1, 1, 0) := ⟨"OneAtATime$Bytes", ("OneAtATime$Bytes", kT1, 2), rfl, rfl, Nat.le_of_ble_eq_true rfl, (gw (List.mem_append_right _ (List.mem_append_left _ (List.mem_of_getElem? (l := tables_1_1) (i := 127) rfl))) rfl), rfl⟩
set_option maxRecDepth 100000 in
theorem fl_21 : FPr (6, 9, 7, 0, 2) := ⟨"OneAtATime$Survey", ("OneAtATime$Survey", kT7, 5), rfl, rfl, Nat.le_of_ble_eq_true rfl, (gw (List.mem_append_right _ (List.mem_append_left _ (List.mem_of_getElem? (l := tables_1_1) (i := 166) rfl))) rfl), rfl⟩
set_option maxRecDepth 100000 in
theorem fl_22 : FPr (6, 15, 7, 1, 2) := ⟨"OneAtATime$Survey", ("OneAtATime$Survey", kT7, 5), rfl, rfl, Nat.le_of_ble_eq_true rfl, (gw (List.mem_append_right _ (List.mem_append_left _ (List.mem_of_getElem? (l := tables_1_1) (i := 167) rfl))) rfl), rfl⟩
set_option maxRecDepth 100000 in
theorem fl_23 : FPr (6, 18, 7, 2, 2) := ⟨"OneAtATime$Survey", ("OneAtATime$Survey", kT7, 5), rfl, rfl, Nat.le_of_ble_eq_true rfl, (gw (List.mem_append_right _ (List.mem_append_left _ (List.mem_of_getElem? (l := tables_1_1) (i := 168) rfl))) rfl), rfl⟩
set_option maxRecDepth 100000 in
theorem fl_24 : FPr (6, 21, 7, 3, 2) := ⟨"OneAtATime$Survey", ("OneAtATime$Survey", kT7, 5), rfl, rfl, Nat.le_of_ble_eq_true rfl, (gw (List.mem_append_right _ (List.mem_append_left _ (List.mem_of_getElem? (l := tables_1_1) (i := 169) rfl))) rfl), rfl⟩
set_option maxRecDepth 100000 in
theorem fl_25 : FPr (6, 24, 7, 4, 2) := ⟨"OneAtATime$Survey", ("OneAtATime$Survey", kT7, 5), rfl, rfl, Nat.le_of_ble_eq_true rfl, (gw (List.mem_append_right _ (List.mem_append_left _ (List.mem_of_getElem? (l := tables_1_1) (i := 170) rfl))) rfl), rfl⟩
set_option maxRecDepth 100000 in
theorem fl_26 : FPr (7, 9, 6, 0, 2) := ⟨"OneAtATime$Search", ("OneAtATime$Search", kT6, 3), rfl, rfl, Nat.le_of_ble_eq_true rfl, (gw (List.mem_append_right _ (List.mem_append_left _ (List.mem_of_getElem? (l := tables_1_1) (i := 188) rfl))) rfl), rfl⟩
set_option maxRecDepth 100000 in
theorem fl_27 : FPr (7, 15, 6, 1, 2) := ⟨"OneAtATime$Search", ("OneAtATime$Search", kT6, 3), rfl, rfl, Nat.le_of_ble_eq_true rfl, (gw (List.mem_append_right _ (List.mem_append_left _ (List.mem_of_getElem? (l := tables_1_1) (i := 189) rfl))) rfl), rfl⟩
set_option maxRecDepth 100000 in
theorem fl_28 : FPr (7, 18, 6, 2, 2) := ⟨"OneAtATime$Search", ("OneAtATime$Search", kT6, 3), rfl, rfl, Nat.le_of_ble_eq_true rfl, (gw (List.mem_append_right _ (List.mem_append_left _ (List.mem_of_getElem? (l := tables_1_1) (i := 190) rfl))) rfl), rfl⟩
set_option maxRecDepth 100000 in
theorem fl_29 : FPr (8, 9, 4, 0, 2) := ⟨"OneAtATime$Likeness", ("OneAtATime$Likeness", kT4, 2), rfl, rfl, Nat.le_of_ble_eq_true rfl, (gw (List.mem_append_right _ (List.mem_append_left _ (List.mem_of_getElem? (l := tables_1_1) (i := 204) rfl))) rfl), rfl⟩
set_option maxRecDepth 100000 in
theorem fl_30 : FPr (8, 15, 4, 1, 2) := ⟨"OneAtATime$Likeness", ("OneAtATime$Likeness", kT4, 2), rfl, rfl, Nat.le_of_ble_eq_true rfl, (gw (List.mem_append_right _ (List.mem_append_left _ (List.mem_of_getElem? (l := tables_1_1) (i := 205) rfl))) rfl), rfl⟩
set_option maxRecDepth 100000 in
theorem fl_31 : FPr (9, 9, 2, 0, 2) := ⟨"OneAtATime$Evenness", ("OneAtATime$Evenness", kT2, 5), rfl, rfl, Nat.le_of_ble_eq_true rfl, (gw (List.mem_append_right _ (List.mem_append_left _ (List.mem_of_getElem? (l := tables_1_1) (i := 217) rfl))) rfl), rfl⟩
set_option maxRecDepth 100000 in
theorem fl_32 : FPr (9, 15, 2, 1, 2) := ⟨"OneAtATime$Evenness", ("OneAtATime$Evenness", kT2, 5), rfl, rfl, Nat.le_of_ble_eq_true rfl, (gw (List.mem_append_right _ (List.mem_append_left _ (List.mem_of_getElem? (l := tables_1_1) (i := 218) rfl))) rfl), rfl⟩
set_option maxRecDepth 100000 in
theorem fl_33 : FPr (9, 18, 2, 2, 2) := ⟨"OneAtATime$Evenness", ("OneAtATime$Evenness", kT2, 5), rfl, rfl, Nat.le_of_ble_eq_true rfl, (gw (List.mem_append_right _ (List.mem_append_left _ (List.mem_of_getElem? (l := tables_1_1) (i := 219) rfl))) rfl), rfl⟩
set_option maxRecDepth 100000 in
theorem fl_34 : FPr (9, 21, 2, 3, 0) := ⟨"OneAtATime$Evenness", ("OneAtATime$Evenness", kT2, 5), rfl, rfl, Nat.le_of_ble_eq_true rfl, (gw (List.mem_append_right _ (List.mem_append_left _ (List.mem_of_getElem? (l := tables_1_1) (i := 220) rfl))) rfl), rfl⟩
set_option maxRecDepth 100000 in
theorem fl_35 : FPr (9, 25, 2, 4, 3) := ⟨"OneAtATime$Evenness", ("OneAtATime$Evenness", kT2, 5), rfl, rfl, Nat.le_of_ble_eq_true rfl, (gw (List.mem_append_right _ (List.mem_append_left _ (List.mem_of_getElem? (l := tables_1_1) (i := 222) rfl))) rfl), rfl⟩
set_option maxRecDepth 100000 in
theorem fl_36 : FPr (0, 71, 5, 0, 2) := ⟨"OneAtATime", ("OneAtATime$Reader", kT5, 6), rfl, rfl, Nat.le_of_ble_eq_true rfl, (gw (List.mem_append_right _ (List.mem_append_left _ (List.mem_of_getElem? (l := tables_1_1) (i := 137) rfl))) rfl), rfl⟩
set_option maxRecDepth 100000 in
theorem fl_37 : FPr (0, 81, 1, 1, 0) := ⟨"OneAtATime", ("OneAtATime$Bytes", kT1, 2), rfl, rfl, Nat.le_of_ble_eq_true rfl, (gw (List.mem_append_right _ (List.mem_append_left _ (List.mem_of_getElem? (l := tables_1_1) (i := 128) rfl))) rfl), rfl⟩
set_option maxRecDepth 100000 in
theorem fl_38 : FPr (3, 27, 5, 3, 0) := ⟨"OneAtATime$Reader", ("OneAtATime$Reader", kT5, 6), rfl, rfl, Nat.le_of_ble_eq_true rfl, (gw (List.mem_append_right _ (List.mem_append_left _ (List.mem_of_getElem? (l := tables_1_1) (i := 140) rfl))) rfl), rfl⟩
set_option maxRecDepth 100000 in
theorem fl_39 : FPr (3, 44, 5, 1, 0) := ⟨"OneAtATime$Reader", ("OneAtATime$Reader", kT5, 6), rfl, rfl, Nat.le_of_ble_eq_true rfl, (gw (List.mem_append_right _ (List.mem_append_left _ (List.mem_of_getElem? (l := tables_1_1) (i := 138) rfl))) rfl), rfl⟩
set_option maxRecDepth 100000 in
theorem fl_40 : FPr (3, 47, 5, 2, 0) := ⟨"OneAtATime$Reader", ("OneAtATime$Reader", kT5, 6), rfl, rfl, Nat.le_of_ble_eq_true rfl, (gw (List.mem_append_right _ (List.mem_append_left _ (List.mem_of_getElem? (l := tables_1_1) (i := 139) rfl))) rfl), rfl⟩
set_option maxRecDepth 100000 in
theorem fl_41 : FPr (3, 103, 1, 1, 0) := ⟨"OneAtATime$Reader", ("OneAtATime$Bytes", kT1, 2), rfl, rfl, Nat.le_of_ble_eq_true rfl, (gw (List.mem_append_right _ (List.mem_append_left _ (List.mem_of_getElem? (l := tables_1_1) (i := 129) rfl))) rfl), rfl⟩
set_option maxRecDepth 100000 in
theorem fl_42 : FPr (1, 22, 0, 3, 0) := ⟨"OneAtATime$BitList", ("OneAtATime$BitList", kT0, 7), rfl, rfl, Nat.le_of_ble_eq_true rfl, (gw (List.mem_append_right _ (List.mem_append_left _ (List.mem_of_getElem? (l := tables_1_1) (i := 51) rfl))) rfl), rfl⟩
set_option maxRecDepth 100000 in
theorem fl_43 : FPr (1, 26, 0, 4, 0) := ⟨"OneAtATime$BitList", ("OneAtATime$BitList", kT0, 7), rfl, rfl, Nat.le_of_ble_eq_true rfl, (gw (List.mem_append_right _ (List.mem_append_left _ (List.mem_of_getElem? (l := tables_1_1) (i := 58) rfl))) rfl), rfl⟩
set_option maxRecDepth 100000 in
theorem fl_44 : FPr (1, 29, 0, 5, 0) := ⟨"OneAtATime$BitList", ("OneAtATime$BitList", kT0, 7), rfl, rfl, Nat.le_of_ble_eq_true rfl, (gw (List.mem_append_right _ (List.mem_append_left _ (List.mem_of_getElem? (l := tables_1_1) (i := 61) rfl))) rfl), rfl⟩
set_option maxRecDepth 100000 in
theorem fl_45 : FPr (1, 32, 0, 6, 0) := ⟨"OneAtATime$BitList", ("OneAtATime$BitList", kT0, 7), rfl, rfl, Nat.le_of_ble_eq_true rfl, (gw (List.mem_append_right _ (List.mem_append_left _ (List.mem_of_getElem? (l := tables_1_1) (i := 65) rfl))) rfl), rfl⟩
set_option maxRecDepth 100000 in
theorem fl_46 : FPr (3, 87, 0, 6, 0) := ⟨"OneAtATime$Reader", ("OneAtATime$BitList", kT0, 7), rfl, rfl, Nat.le_of_ble_eq_true rfl, (gw (List.mem_append_right _ (List.mem_append_left _ (List.mem_of_getElem? (l := tables_1_1) (i := 69) rfl))) rfl), rfl⟩
set_option maxRecDepth 100000 in
theorem fl_47 : FPr (0, 126, 0, 6, 0) := ⟨"OneAtATime", ("OneAtATime$BitList", kT0, 7), rfl, rfl, Nat.le_of_ble_eq_true rfl, (gw (List.mem_append_right _ (List.mem_append_left _ (List.mem_of_getElem? (l := tables_1_1) (i := 71) rfl))) rfl), rfl⟩
set_option maxRecDepth 100000 in
theorem fl_48 : FPr (0, 96, 5, 4, 0) := ⟨"OneAtATime", ("OneAtATime$Reader", kT5, 6), rfl, rfl, Nat.le_of_ble_eq_true rfl, (gw (List.mem_append_right _ (List.mem_append_left _ (List.mem_of_getElem? (l := tables_1_1) (i := 142) rfl))) rfl), rfl⟩
set_option maxRecDepth 100000 in
theorem fl_49 : FPr (0, 99, 5, 5, 0) := ⟨"OneAtATime", ("OneAtATime$Reader", kT5, 6), rfl, rfl, Nat.le_of_ble_eq_true rfl, (gw (List.mem_append_right _ (List.mem_append_left _ (List.mem_of_getElem? (l := tables_1_1) (i := 144) rfl))) rfl), rfl⟩
set_option maxRecDepth 100000 in
theorem fl_50 : FPr (0, 106, 3, 3, 0) := ⟨"OneAtATime", ("OneAtATime$History", kT3, 4), rfl, rfl, Nat.le_of_ble_eq_true rfl, (gw (List.mem_append_right _ (List.mem_append_left _ (List.mem_of_getElem? (l := tables_1_1) (i := 101) rfl))) rfl), rfl⟩
set_option maxRecDepth 100000 in
theorem fl_51 : FPr (0, 343, 0, 2, 1) := ⟨"OneAtATime", ("OneAtATime$BitList", kT0, 7), rfl, rfl, Nat.le_of_ble_eq_true rfl, (gw (List.mem_append_right _ (List.mem_append_left _ (List.mem_of_getElem? (l := tables_1_1) (i := 50) rfl))) rfl), rfl⟩
set_option maxRecDepth 100000 in
theorem fl_52 : FPr (0, 113, 0, 3, 0) := ⟨"OneAtATime", ("OneAtATime$BitList", kT0, 7), rfl, rfl, Nat.le_of_ble_eq_true rfl, (gw (List.mem_append_right _ (List.mem_append_left _ (List.mem_of_getElem? (l := tables_1_1) (i := 56) rfl))) rfl), rfl⟩
set_option maxRecDepth 100000 in
theorem fl_53 : FPr (0, 116, 0, 4, 0) := ⟨"OneAtATime", ("OneAtATime$BitList", kT0, 7), rfl, rfl, Nat.le_of_ble_eq_true rfl, (gw (List.mem_append_right _ (List.mem_append_left _ (List.mem_of_getElem? (l := tables_1_1) (i := 59) rfl))) rfl), rfl⟩
set_option maxRecDepth 100000 in
theorem fl_54 : FPr (0, 119, 0, 5, 0) := ⟨"OneAtATime", ("OneAtATime$BitList", kT0, 7), rfl, rfl, Nat.le_of_ble_eq_true rfl, (gw (List.mem_append_right _ (List.mem_append_left _ (List.mem_of_getElem? (l := tables_1_1) (i := 62) rfl))) rfl), rfl⟩
set_option maxRecDepth 100000 in
theorem fl_55 : FPr (0, 122, 0, 1, 2) := ⟨"OneAtATime", ("OneAtATime$BitList", kT0, 7), rfl, rfl, Nat.le_of_ble_eq_true rfl, (gw (List.mem_append_right _ (List.mem_append_left _ (List.mem_of_getElem? (l := tables_1_1) (i := 47) rfl))) rfl), rfl⟩
set_option maxRecDepth 100000 in
theorem fl_56 : FPr (6, 39, 0, 1, 2) := ⟨"OneAtATime$Survey", ("OneAtATime$BitList", kT0, 7), rfl, rfl, Nat.le_of_ble_eq_true rfl, (gw (List.mem_append_right _ (List.mem_append_left _ (List.mem_of_getElem? (l := tables_1_1) (i := 46) rfl))) rfl), rfl⟩
set_option maxRecDepth 100000 in
theorem fl_57 : FPr (6, 57, 0, 6, 0) := ⟨"OneAtATime$Survey", ("OneAtATime$BitList", kT0, 7), rfl, rfl, Nat.le_of_ble_eq_true rfl, (gw (List.mem_append_right _ (List.mem_append_left _ (List.mem_of_getElem? (l := tables_1_1) (i := 70) rfl))) rfl), rfl⟩
set_option maxRecDepth 100000 in
theorem fl_58 : FPr (6, 75, 0, 3, 0) := ⟨"OneAtATime$Survey", ("OneAtATime$BitList", kT0, 7), rfl, rfl, Nat.le_of_ble_eq_true rfl, (gw (List.mem_append_right _ (List.mem_append_left _ (List.mem_of_getElem? (l := tables_1_1) (i := 55) rfl))) rfl), rfl⟩
set_option maxRecDepth 100000 in
theorem fl_59 : FPr (0, 165, 0, 0, 2) := ⟨"OneAtATime", ("OneAtATime$BitList", kT0, 7), rfl, rfl, Nat.le_of_ble_eq_true rfl, (gw (List.mem_append_right _ (List.mem_append_left _ (List.mem_of_getElem? (l := tables_1_1) (i := 41) rfl))) rfl), rfl⟩
set_option maxRecDepth 100000 in
theorem fl_60 : FPr (6, 112, 0, 0, 2) := ⟨"OneAtATime$Survey", ("OneAtATime$BitList", kT0, 7), rfl, rfl, Nat.le_of_ble_eq_true rfl, (gw (List.mem_append_right _ (List.mem_append_left _ (List.mem_of_getElem? (l := tables_1_1) (i := 42) rfl))) rfl), rfl⟩
set_option maxRecDepth 100000 in
theorem fl_61 : FPr (12, 7, 0, 1, 2) := ⟨"OneAtATime$Maker", ("OneAtATime$BitList", kT0, 7), rfl, rfl, Nat.le_of_ble_eq_true rfl, (gw (List.mem_append_right _ (List.mem_append_left _ (List.mem_of_getElem? (l := tables_1_1) (i := 45) rfl))) rfl), rfl⟩
set_option maxRecDepth 100000 in
theorem fl_62 : FPr (12, 31, 0, 3, 0) := ⟨"OneAtATime$Maker", ("OneAtATime$BitList", kT0, 7), rfl, rfl, Nat.le_of_ble_eq_true rfl, (gw (List.mem_append_right _ (List.mem_append_left _ (List.mem_of_getElem? (l := tables_1_1) (i := 52) rfl))) rfl), rfl⟩
set_option maxRecDepth 100000 in
theorem fl_63 : FPr (12, 39, 0, 6, 0) := ⟨"OneAtATime$Maker", ("OneAtATime$BitList", kT0, 7), rfl, rfl, Nat.le_of_ble_eq_true rfl, (gw (List.mem_append_right _ (List.mem_append_left _ (List.mem_of_getElem? (l := tables_1_1) (i := 68) rfl))) rfl), rfl⟩
set_option maxRecDepth 100000 in
theorem fl_64 : FPr (7, 21, 0, 1, 2) := ⟨"OneAtATime$Search", ("OneAtATime$BitList", kT0, 7), rfl, rfl, Nat.le_of_ble_eq_true rfl, (gw (List.mem_append_right _ (List.mem_append_left _ (List.mem_of_getElem? (l := tables_1_1) (i := 44) rfl))) rfl), rfl⟩
set_option maxRecDepth 100000 in
theorem fl_65 : FPr (7, 43, 0, 6, 0) := ⟨"OneAtATime$Search", ("OneAtATime$BitList", kT0, 7), rfl, rfl, Nat.le_of_ble_eq_true rfl, (gw (List.mem_append_right _ (List.mem_append_left _ (List.mem_of_getElem? (l := tables_1_1) (i := 66) rfl))) rfl), rfl⟩
set_option maxRecDepth 100000 in
theorem fl_66 : FPr (7, 86, 0, 3, 0) := ⟨"OneAtATime$Search", ("OneAtATime$BitList", kT0, 7), rfl, rfl, Nat.le_of_ble_eq_true rfl, (gw (List.mem_append_right _ (List.mem_append_left _ (List.mem_of_getElem? (l := tables_1_1) (i := 54) rfl))) rfl), rfl⟩
set_option maxRecDepth 100000 in
theorem fl_67 : FPr (12, 72, 0, 0, 2) := ⟨"OneAtATime$Maker", ("OneAtATime$BitList", kT0, 7), rfl, rfl, Nat.le_of_ble_eq_true rfl, (gw (List.mem_append_right _ (List.mem_append_left _ (List.mem_of_getElem? (l := tables_1_1) (i := 39) rfl))) rfl), rfl⟩
set_option maxRecDepth 100000 in
theorem fl_68 : FPr (0, 277, 2, 3, 0) := ⟨"OneAtATime", ("OneAtATime$Evenness", kT2, 5), rfl, rfl, Nat.le_of_ble_eq_true rfl, (gw (List.mem_append_right _ (List.mem_append_left _ (List.mem_of_getElem? (l := tables_1_1) (i := 221) rfl))) rfl), rfl⟩
set_option maxRecDepth 100000 in
theorem fl_69 : FPr (0, 280, 2, 4, 3) := ⟨"OneAtATime", ("OneAtATime$Evenness", kT2, 5), rfl, rfl, Nat.le_of_ble_eq_true rfl, (gw (List.mem_append_right _ (List.mem_append_left _ (List.mem_of_getElem? (l := tables_1_1) (i := 223) rfl))) rfl), rfl⟩
set_option maxRecDepth 100000 in
theorem fl_70 : FPr (9, 37, 0, 3, 0) := ⟨"OneAtATime$Evenness", ("OneAtATime$BitList", kT0, 7), rfl, rfl, Nat.le_of_ble_eq_true rfl, (gw (List.mem_append_right _ (List.mem_append_left _ (List.mem_of_getElem? (l := tables_1_1) (i := 53) rfl))) rfl), rfl⟩
set_option maxRecDepth 100000 in
theorem fl_71 : FPr (9, 52, 0, 6, 0) := ⟨"OneAtATime$Evenness", ("OneAtATime$BitList", kT0, 7), rfl, rfl, Nat.le_of_ble_eq_true rfl, (gw (List.mem_append_right _ (List.mem_append_left _ (List.mem_of_getElem? (l := tables_1_1) (i := 67) rfl))) rfl), rfl⟩
set_option maxRecDepth 100000 in
theorem fl_72 : FPr (9, 55, 0, 0, 2) := ⟨"OneAtATime$Evenness", ("OneAtATime$BitList", kT0, 7), rfl, rfl, Nat.le_of_ble_eq_true rfl, (gw (List.mem_append_right _ (List.mem_append_left _ (List.mem_of_getElem? (l := tables_1_1) (i := 38) rfl))) rfl), rfl⟩
set_option maxRecDepth 100000 in
theorem fl_73 : FPr (8, 18, 0, 6, 0) := ⟨"OneAtATime$Likeness", ("OneAtATime$BitList", kT0, 7), rfl, rfl, Nat.le_of_ble_eq_true rfl, (gw (List.mem_append_right _ (List.mem_append_left _ (List.mem_of_getElem? (l := tables_1_1) (i := 64) rfl))) rfl), rfl⟩
set_option maxRecDepth 100000 in
theorem fl_74 : FPr (8, 38, 0, 0, 2) := ⟨"OneAtATime$Likeness", ("OneAtATime$BitList", kT0, 7), rfl, rfl, Nat.le_of_ble_eq_true rfl, (gw (List.mem_append_right _ (List.mem_append_left _ (List.mem_of_getElem? (l := tables_1_1) (i := 37) rfl))) rfl), rfl⟩
set_option maxRecDepth 100000 in
theorem fl_75 : FPr (4, 44, 0, 3, 0) := ⟨"OneAtATime$Bytes", ("OneAtATime$BitList", kT0, 7), rfl, rfl, Nat.le_of_ble_eq_true rfl, (gw (List.mem_append_right _ (List.mem_append_left _ (List.mem_of_getElem? (l := tables_1_1) (i := 57) rfl))) rfl), rfl⟩
set_option maxRecDepth 100000 in
theorem fl_76 : FPr (4, 54, 0, 4, 0) := ⟨"OneAtATime$Bytes", ("OneAtATime$BitList", kT0, 7), rfl, rfl, Nat.le_of_ble_eq_true rfl, (gw (List.mem_append_right _ (List.mem_append_left _ (List.mem_of_getElem? (l := tables_1_1) (i := 60) rfl))) rfl), rfl⟩
set_option maxRecDepth 100000 in
theorem fl_77 : FPr (4, 59, 0, 5, 0) := ⟨"OneAtATime$Bytes", ("OneAtATime$BitList", kT0, 7), rfl, rfl, Nat.le_of_ble_eq_true rfl, (gw (List.mem_append_right _ (List.mem_append_left _ (List.mem_of_getElem? (l := tables_1_1) (i := 63) rfl))) rfl), rfl⟩
set_option maxRecDepth 100000 in
theorem fl_78 : FPr (4, 64, 0, 1, 2) := ⟨"OneAtATime$Bytes", ("OneAtATime$BitList", kT0, 7), rfl, rfl, Nat.le_of_ble_eq_true rfl, (gw (List.mem_append_right _ (List.mem_append_left _ (List.mem_of_getElem? (l := tables_1_1) (i := 48) rfl))) rfl), rfl⟩
set_option maxRecDepth 100000 in
theorem fl_79 : FPr (4, 68, 0, 6, 0) := ⟨"OneAtATime$Bytes", ("OneAtATime$BitList", kT0, 7), rfl, rfl, Nat.le_of_ble_eq_true rfl, (gw (List.mem_append_right _ (List.mem_append_left _ (List.mem_of_getElem? (l := tables_1_1) (i := 72) rfl))) rfl), rfl⟩
set_option maxRecDepth 100000 in
theorem fl_80 : FPr (4, 71, 0, 0, 2) := ⟨"OneAtATime$Bytes", ("OneAtATime$BitList", kT0, 7), rfl, rfl, Nat.le_of_ble_eq_true rfl, (gw (List.mem_append_right _ (List.mem_append_left _ (List.mem_of_getElem? (l := tables_1_1) (i := 40) rfl))) rfl), rfl⟩
set_option maxRecDepth 100000 in
theorem fl_81 : FPr (14, 13, 9, 0, 2) := ⟨"OneAtATimeModel", ("OneAtATimeModel", kT9, 29), rfl, rfl, Nat.le_of_ble_eq_true rfl, (gw (List.mem_append_right _ (List.mem_append_right _ (List.mem_append_right _ (List.mem_append_right _ (List.mem_append_right _ (List.mem_append_left _ (List.mem_of_getElem? (l := tables_1_5) (i := 55) rfl))))))) rfl), rfl⟩
set_option maxRecDepth 100000 in
theorem fl_82 : FPr (14, 17, 9, 1, 2) := ⟨"OneAtATimeModel", ("OneAtATimeModel", kT9, 29), rfl, rfl, Nat.le_of_ble_eq_true rfl, (gw (List.mem_append_right _ (List.mem_append_right _ (List.mem_append_right _ (List.mem_append_right _ (List.mem_append_right _ (List.mem_append_left _ (List.mem_of_getElem? (l := tables_1_5) (i := 56) rfl))))))) rfl), rfl⟩
set_option maxRecDepth 100000 in
theorem fl_83 : FPr (14, 20, 9, 2, 2) := ⟨"OneAtATimeModel", ("OneAtATimeModel", kT9, 29), rfl, rfl, Nat.le_of_ble_eq_true rfl, (gw (List.mem_append_right _ (List.mem_append_right _ (List.mem_append_right _ (List.mem_append_right _ (List.mem_append_right _ (List.mem_append_left _ (List.mem_of_getElem? (l := tables_1_5) (i := 57) rfl))))))) rfl), rfl⟩
set_option maxRecDepth 100000 in
theorem fl_84 : FPr (14, 23, 9, 4, 2) := ⟨"OneAtATimeModel", ("OneAtATimeModel", kT9, 29), rfl, rfl, Nat.le_of_ble_eq_true rfl, (gw (List.mem_append_right _ (List.mem_append_right _ (List.mem_append_right _ (List.mem_append_right _ (List.mem_append_right _ (List.mem_append_left _ (List.mem_of_getElem? (l := tables_1_5) (i := 59) rfl))))))) rfl), rfl⟩
set_option maxRecDepth 100000 in
theorem fl_85 : FPr (14, 26, 9, 6, 2) := ⟨"OneAtATimeModel", ("OneAtATimeModel", kT9, 29), rfl, rfl, Nat.le_of_ble_eq_true rfl, (gw (List.mem_append_right _ (List.mem_append_right _ (List.mem_append_right _ (List.mem_append_right _ (List.mem_append_right _ (List.mem_append_left _ (List.mem_of_getElem? (l := tables_1_5) (i := 61) rfl))))))) rfl), rfl⟩
set_option maxRecDepth 100000 in
theorem fl_86 : FPr (14, 29, 9, 9, 0) := ⟨"OneAtATimeModel", ("OneAtATimeModel", kT9, 29), rfl, rfl, Nat.le_of_ble_eq_true rfl, (gw (List.mem_append_right _ (List.mem_append_right _ (List.mem_append_right _ (List.mem_append_right _ (List.mem_append_right _ (List.mem_append_left _ (List.mem_of_getElem? (l := tables_1_5) (i := 64) rfl))))))) rfl), rfl⟩
set_option maxRecDepth 100000 in
theorem fl_87 : FPr (14, 33, 9, 15, 2) := ⟨"OneAtATimeModel", ("OneAtATimeModel", kT9, 29), rfl, rfl, Nat.le_of_ble_eq_true rfl, (gw (List.mem_append_right _ (List.mem_append_right _ (List.mem_append_right _ (List.mem_append_right _ (List.mem_append_right _ (List.mem_append_left _ (List.mem_of_getElem? (l := tables_1_5) (i := 70) rfl))))))) rfl), rfl⟩
set_option maxRecDepth 100000 in
theorem fl_88 : FPr (14, 36, 9, 16, 2) := ⟨"OneAtATimeModel", ("OneAtATimeModel", kT9, 29), rfl, rfl, Nat.le_of_ble_eq_true rfl, (gw (List.mem_append_right _ (List.mem_append_right _ (List.mem_append_right _ (List.mem_append_right _ (List.mem_append_right _ (List.mem_append_left _ (List.mem_of_getElem? (l := tables_1_5) (i := 71) rfl))))))) rfl), rfl⟩
set_option maxRecDepth 100000 in
theorem fl_89 : FPr (14, 39, 9, 19, 2) := ⟨"OneAtATimeModel", ("OneAtATimeModel", kT9, 29), rfl, rfl, Nat.le_of_ble_eq_true rfl, (gw (List.mem_append_right _ (List.mem_append_right _ (List.mem_append_right _ (List.mem_append_right _ (List.mem_append_right _ (List.mem_append_left _ (List.mem_of_getElem? (l := tables_1_5) (i := 74) rfl))))))) rfl), rfl⟩
set_option maxRecDepth 100000 in
theorem fl_90 : FPr (14, 43, 9, 20, 2) := ⟨"OneAtATimeModel", ("OneAtATimeModel", kT9, 29), rfl, rfl, Nat.le_of_ble_eq_true rfl, (gw (List.mem_append_right _ (List.mem_append_right _ (List.mem_append_right _ (List.mem_append_right _ (List.mem_append_right _ (List.mem_append_left _ (List.mem_of_getElem? (l := tables_1_5) (i := 75) rfl))))))) rfl), rfl⟩
set_option maxRecDepth 100000 in
theorem fl_91 : FPr (14, 46, 9, 24, 2) := ⟨"OneAtATimeModel", ("OneAtATimeModel", kT9, 29), rfl, rfl, Nat.le_of_ble_eq_true rfl, (gw (List.mem_append_right _ (List.mem_append_right _ (List.mem_append_right _ (List.mem_append_right _ (List.mem_append_right _ (List.mem_append_left _ (List.mem_of_getElem? (l := tables_1_5) (i := 79) rfl))))))) rfl), rfl⟩
set_option maxRecDepth 100000 in
theorem fl_92 : FPr (14, 49, 9, 25, 2) := ⟨"OneAtATimeModel", ("OneAtATimeModel", kT9, 29), rfl, rfl, Nat.le_of_ble_eq_true rfl, (gw (List.mem_append_right _ (List.mem_append_right _ (List.mem_append_right _ (List.mem_append_right _ (List.mem_append_right _ (List.mem_append_left _ (List.mem_of_getElem? (l := tables_1_5) (i := 80) rfl))))))) rfl), rfl⟩
set_option maxRecDepth 100000 in
theorem fl_93 : FPr (14, 52, 9, 26, 2) := ⟨"OneAtATimeModel", ("OneAtATimeModel", kT9, 29), rfl, rfl, Nat.le_of_ble_eq_true rfl, (gw (List.mem_append_right _ (List.mem_append_right _ (List.mem_append_right _ (List.mem_append_right _ (List.mem_append_right _ (List.mem_append_left _ (List.mem_of_getElem? (l := tables_1_5) (i := 81) rfl))))))) rfl), rfl⟩
set_option maxRecDepth 100000 in
theorem fl_94 : FPr (14, 55, 9, 27, 2) := ⟨"OneAtATimeModel", ("OneAtATimeModel", kT9, 29), rfl, rfl, Nat.le_of_ble_eq_true rfl, (gw (List.mem_append_right _ (List.mem_append_right _ (List.mem_append_right _ (List.mem_append_right _ (List.mem_append_right _ (List.mem_append_left _ (List.mem_of_getElem? (l := tables_1_5) (i := 82) rfl))))))) rfl), rfl⟩
set_option maxRecDepth 100000 in
theorem fl_95 : FPr (14, 82, 9, 3, 0) := ⟨"OneAtATimeModel", ("OneAtATimeModel", kT9, 29), rfl, rfl, Nat.le_of_ble_eq_true rfl, (gw (List.mem_append_right _ (List.mem_append_right _ (List.mem_append_right _ (List.mem_append_right _ (List.mem_append_right _ (List.mem_append_left _ (List.mem_of_getElem? (l := tables_1_5) (i := 58) rfl))))))) rfl), rfl⟩
set_option maxRecDepth 100000 in
theorem fl_96 : FPr (14, 88, 9, 5, 0) := ⟨"OneAtATimeModel", ("OneAtATimeModel", kT9, 29), rfl, rfl, Nat.le_of_ble_eq_true rfl, (gw (List.mem_append_right _ (List.mem_append_right _ (List.mem_append_right _ (List.mem_append_right _ (List.mem_append_right _ (List.mem_append_left _ (List.mem_of_getElem? (l := tables_1_5) (i := 60) rfl))))))) rfl), rfl⟩
set_option maxRecDepth 100000 in
theorem fl_97 : FPr (14, 111, 9, 7, 0) := ⟨"OneAtATimeModel", ("OneAtATimeModel", kT9, 29), rfl, rfl, Nat.le_of_ble_eq_true rfl, (gw (List.mem_append_right _ (List.mem_append_right _ (List.mem_append_right _ (List.mem_append_right _ (List.mem_append_right _ (List.mem_append_left _ (List.mem_of_getElem? (l := tables_1_5) (i := 62) rfl))))))) rfl), rfl⟩
set_option maxRecDepth 100000 in
theorem fl_98 : FPr (14, 138, 9, 8, 0) := ⟨"OneAtATimeModel", ("OneAtATimeModel", kT9, 29), rfl, rfl, Nat.le_of_ble_eq_true rfl, (gw (List.mem_append_right _ (List.mem_append_right _ (List.mem_append_right _ (List.mem_append_right _ (List.mem_append_right _ (List.mem_append_left _ (List.mem_of_getElem? (l := tables_1_5) (i := 63) rfl))))))) rfl), rfl⟩
set_option maxRecDepth 100000 in
theorem fl_99 : FPr (14, 134, 9, 14, 1) := ⟨"OneAtATimeModel", ("OneAtATimeModel", kT9, 29), rfl, rfl, Nat.le_of_ble_eq_true rfl, (gw (List.mem_append_right _ (List.mem_append_right _ (List.mem_append_right _ (List.mem_append_right _ (List.mem_append_right _ (List.mem_append_left _ (List.mem_of_getElem? (l := tables_1_5) (i := 69) rfl))))))) rfl), rfl⟩
set_option maxRecDepth 100000 in
theorem fl_100 : FPr (14, 114, 9, 10, 0) := ⟨"OneAtATimeModel", ("OneAtATimeModel", kT9, 29), rfl, rfl, Nat.le_of_ble_eq_true rfl, (gw (List.mem_append_right _ (List.mem_append_right _ (List.mem_append_right _ (List.mem_append_right _ (List.mem_append_right _ (List.mem_append_left _ (List.mem_of_getElem? (l := tables_1_5) (i := 65) rfl))))))) rfl), rfl⟩
set_option maxRecDepth 100000 in
theorem fl_101 : FPr (14, 126, 9, 12, 0) := ⟨"OneAtATimeModel", ("OneAtATimeModel", kT9, 29), rfl, rfl, Nat.le_of_ble_eq_true rfl, (gw (List.mem_append_right _ (List.mem_append_right _ (List.mem_append_right _ (List.mem_append_right _ (List.mem_append_right _ (List.mem_append_left _ (List.mem_of_getElem? (l := tables_1_5) (i := 67) rfl))))))) rfl), rfl⟩
set_option maxRecDepth 100000 in
theorem fl_102 : FPr (14, 120, 9, 11, 0) := ⟨"OneAtATimeModel", ("OneAtATimeModel", kT9, 29), rfl, rfl, Nat.le_of_ble_eq_true rfl, (gw (List.mem_append_right _ (List.mem_append_right _ (List.mem_append_right _ (List.mem_append_right _ (List.mem_append_right _ (List.mem_append_left _ (List.mem_of_getElem? (l := tables_1_5) (i := 66) rfl))))))) rfl), rfl⟩
set_option maxRecDepth 100000 in
theorem fl_103 : FPr (14, 123, 9, 13, 0) := ⟨"OneAtATimeModel", ("OneAtATimeModel", kT9, 29), rfl, rfl, Nat.le_of_ble_eq_true rfl, (gw (List.mem_append_right _ (List.mem_append_right _ (List.mem_append_right _ (List.mem_append_right _ (List.mem_append_right _ (List.mem_append_left _ (List.mem_of_getElem? (l := tables_1_5) (i := 68) rfl))))))) rfl), rfl⟩
set_option maxRecDepth 100000 in
theorem fl_104 : FPr (14, 182, 9, 28, 0) := ⟨"OneAtATimeModel", ("OneAtATimeModel", kT9, 29), rfl, rfl, Nat.le_of_ble_eq_true rfl, (gw (List.mem_append_right _ (List.mem_append_right _ (List.mem_append_right _ (List.mem_append_right _ (List.mem_append_right _ (List.mem_append_left _ (List.mem_of_getElem? (l := tables_1_5) (i := 83) rfl))))))) rfl), rfl⟩
set_option maxRecDepth 100000 in
theorem fl_105 : FPr (14, 185, 9, 18, 1) := ⟨"OneAtATimeModel", ("OneAtATimeModel", kT9, 29), rfl, rfl, Nat.le_of_ble_eq_true rfl, (gw (List.mem_append_right _ (List.mem_append_right _ (List.mem_append_right _ (List.mem_append_right _ (List.mem_append_right _ (List.mem_append_left _ (List.mem_of_getElem? (l := tables_1_5) (i := 73) rfl))))))) rfl), rfl⟩
set_option maxRecDepth 100000 in
theorem fl_106 : FPr (14, 188, 9, 17, 0) := ⟨"OneAtATimeModel", ("OneAtATimeModel", kT9, 29), rfl, rfl, Nat.le_of_ble_eq_true rfl, (gw (List.mem_append_right _ (List.mem_append_right _ (List.mem_append_right _ (List.mem_append_right _ (List.mem_append_right _ (List.mem_append_left _ (List.mem_of_getElem? (l := tables_1_5) (i := 72) rfl))))))) rfl), rfl⟩
set_option maxRecDepth 100000 in
theorem fl_107 : FPr (14, 260, 9, 23, 0) := ⟨"OneAtATimeModel", ("OneAtATimeModel", kT9, 29), rfl, rfl, Nat.le_of_ble_eq_true rfl, (gw (List.mem_append_right _ (List.mem_append_right _ (List.mem_append_right _ (List.mem_append_right _ (List.mem_append_right _ (List.mem_append_left _ (List.mem_of_getElem? (l := tables_1_5) (i := 78) rfl))))))) rfl), rfl⟩
set_option maxRecDepth 100000 in
theorem fl_108 : FPr (14, 263, 9, 22, 0) := ⟨"OneAtATimeModel", ("OneAtATimeModel", kT9, 29), rfl, rfl, Nat.le_of_ble_eq_true rfl, (gw (List.mem_append_right _ (List.mem_append_right _ (List.mem_append_right _ (List.mem_append_right _ (List.mem_append_right _ (List.mem_append_left _ (List.mem_of_getElem? (l := tables_1_5) (i := 77) rfl))))))) rfl), rfl⟩
set_option maxRecDepth 100000 in
theorem fl_109 : FPr (14, 269, 9, 21, 0) := ⟨"OneAtATimeModel", ("OneAtATimeModel", kT9, 29), rfl, rfl, Nat.le_of_ble_eq_true rfl, (gw (List.mem_append_right _ (List.mem_append_right _ (List.mem_append_right _ (List.mem_append_right _ (List.mem_append_right _ (List.mem_append_left _ (List.mem_of_getElem? (l := tables_1_5) (i := 76) rfl))))))) rfl), rfl⟩
set_option maxRecDepth 100000 in
theorem ft_ok : ∀ e ∈ ftL, FPr e := List.forall_mem_cons.mpr ⟨fl_0, List.forall_mem_cons.mpr ⟨fl_1, List.forall_mem_cons.mpr ⟨fl_2, List.forall_mem_cons.mpr ⟨fl_3, List.forall_mem_cons.mpr ⟨fl_4, List.forall_mem_cons.mpr ⟨fl_5, List.forall_mem_cons.mpr ⟨fl_6, List.forall_mem_cons.mpr ⟨fl_7, List.forall_mem_cons.mpr ⟨fl_8, List.forall_mem_cons.mpr ⟨fl_9, List.forall_mem_cons.mpr ⟨fl_10, List.forall_mem_cons.mpr ⟨fl_11, List.forall_mem_cons.mpr ⟨fl_12, List.forall_mem_cons.mpr ⟨fl_13, List.forall_mem_cons.mpr ⟨fl_14, List.forall_mem_cons.mpr ⟨fl_15, List.forall_mem_cons.mpr ⟨fl_16, List.forall_mem_cons.mpr ⟨fl_17, List.forall_mem_cons.mpr ⟨fl_18, List.forall_mem_cons.mpr ⟨fl_19, List.forall_mem_cons.mpr ⟨fl_20, List.forall_mem_cons.mpr ⟨fl_21, List.forall_mem_cons.mpr ⟨fl_22, List.forall_mem_cons.mpr ⟨fl_23, List.forall_mem_cons.mpr ⟨fl_24, List.forall_mem_cons.mpr ⟨fl_25, List.forall_mem_cons.mpr ⟨fl_26, List.forall_mem_cons.mpr ⟨fl_27, List.forall_mem_cons.mpr ⟨fl_28, List.forall_mem_cons.mpr ⟨fl_29, List.forall_mem_cons.mpr ⟨fl_30, List.forall_mem_cons.mpr ⟨fl_31, List.forall_mem_cons.mpr ⟨fl_32, List.forall_mem_cons.mpr ⟨fl_33, List.forall_mem_cons.mpr ⟨fl_34, List.forall_mem_cons.mpr ⟨fl_35, List.forall_mem_cons.mpr ⟨fl_36, List.forall_mem_cons.mpr ⟨fl_37, List.forall_mem_cons.mpr ⟨fl_38, List.forall_mem_cons.mpr ⟨fl_39, List.forall_mem_cons.mpr ⟨fl_40, List.forall_mem_cons.mpr ⟨fl_41, List.forall_mem_cons.mpr ⟨fl_42, List.forall_mem_cons.mpr ⟨fl_43, List.forall_mem_cons.mpr ⟨fl_44, List.forall_mem_cons.mpr ⟨fl_45, List.forall_mem_cons.mpr ⟨fl_46, List.forall_mem_cons.mpr ⟨fl_47, List.forall_mem_cons.mpr ⟨fl_48, List.forall_mem_cons.mpr ⟨fl_49, List.forall_mem_cons.mpr ⟨fl_50, List.forall_mem_cons.mpr ⟨fl_51, List.forall_mem_cons.mpr ⟨fl_52, List.forall_mem_cons.mpr ⟨fl_53, List.forall_mem_cons.mpr ⟨fl_54, List.forall_mem_cons.mpr ⟨fl_55, List.forall_mem_cons.mpr ⟨fl_56, List.forall_mem_cons.mpr ⟨fl_57, List.forall_mem_cons.mpr ⟨fl_58, List.forall_mem_cons.mpr ⟨fl_59, List.forall_mem_cons.mpr ⟨fl_60, List.forall_mem_cons.mpr ⟨fl_61, List.forall_mem_cons.mpr ⟨fl_62, List.forall_mem_cons.mpr ⟨fl_63, List.forall_mem_cons.mpr ⟨fl_64, List.forall_mem_cons.mpr ⟨fl_65, List.forall_mem_cons.mpr ⟨fl_66, List.forall_mem_cons.mpr ⟨fl_67, List.forall_mem_cons.mpr ⟨fl_68, List.forall_mem_cons.mpr ⟨fl_69, List.forall_mem_cons.mpr ⟨fl_70, List.forall_mem_cons.mpr ⟨fl_71, List.forall_mem_cons.mpr ⟨fl_72, List.forall_mem_cons.mpr ⟨fl_73, List.forall_mem_cons.mpr ⟨fl_74, List.forall_mem_cons.mpr ⟨fl_75, List.forall_mem_cons.mpr ⟨fl_76, List.forall_mem_cons.mpr ⟨fl_77, List.forall_mem_cons.mpr ⟨fl_78, List.forall_mem_cons.mpr ⟨fl_79, List.forall_mem_cons.mpr ⟨fl_80, List.forall_mem_cons.mpr ⟨fl_81, List.forall_mem_cons.mpr ⟨fl_82, List.forall_mem_cons.mpr ⟨fl_83, List.forall_mem_cons.mpr ⟨fl_84, List.forall_mem_cons.mpr ⟨fl_85, List.forall_mem_cons.mpr ⟨fl_86, List.forall_mem_cons.mpr ⟨fl_87, List.forall_mem_cons.mpr ⟨fl_88, List.forall_mem_cons.mpr ⟨fl_89, List.forall_mem_cons.mpr ⟨fl_90, List.forall_mem_cons.mpr ⟨fl_91, List.forall_mem_cons.mpr ⟨fl_92, List.forall_mem_cons.mpr ⟨fl_93, List.forall_mem_cons.mpr ⟨fl_94, List.forall_mem_cons.mpr ⟨fl_95, List.forall_mem_cons.mpr ⟨fl_96, List.forall_mem_cons.mpr ⟨fl_97, List.forall_mem_cons.mpr ⟨fl_98, List.forall_mem_cons.mpr ⟨fl_99, List.forall_mem_cons.mpr ⟨fl_100, List.forall_mem_cons.mpr ⟨fl_101, List.forall_mem_cons.mpr ⟨fl_102, List.forall_mem_cons.mpr ⟨fl_103, List.forall_mem_cons.mpr ⟨fl_104, List.forall_mem_cons.mpr ⟨fl_105, List.forall_mem_cons.mpr ⟨fl_106, List.forall_mem_cons.mpr ⟨fl_107, List.forall_mem_cons.mpr ⟨fl_108, List.forall_mem_cons.mpr ⟨fl_109, fun _ h => absurd h List.not_mem_nil⟩⟩⟩⟩⟩⟩⟩⟩⟩⟩⟩⟩⟩⟩⟩⟩⟩⟩⟩⟩⟩⟩⟩⟩⟩⟩⟩⟩⟩⟩⟩⟩⟩⟩⟩⟩⟩⟩⟩⟩⟩⟩⟩⟩⟩⟩⟩⟩⟩⟩⟩⟩⟩⟩⟩⟩⟩⟩⟩⟩⟩⟩⟩⟩⟩⟩⟩⟩⟩⟩⟩⟩⟩⟩⟩⟩⟩⟩⟩⟩⟩⟩⟩⟩⟩⟩⟩⟩⟩⟩⟩⟩⟩⟩⟩⟩⟩⟩⟩⟩⟩⟩⟩⟩⟩⟩⟩⟩⟩⟩
def NPr (e : Nat × Nat × Nat × Nat) : Prop := ∃ (own : String) (q : vw_C), ownL[e.1]? = some own ∧ cls0[bif Nat.beq e.2.2.1 23 then 0 else e.2.2.1]? = some q ∧ Jvm.Cond.classLink own e.2.1 q.1 ∈ gtb ∧ (Nat.beq e.2.2.1 23 = false → q.2.2 = e.2.2.2)
set_option maxRecDepth 100000 in
theorem nl_0 : NPr (0, 9, 23, 0) := ⟨"OneAtATime", ("OneAtATime$BitList", kT0, 7), rfl, rfl, (gw (List.mem_append_right _ (List.mem_append_left _ (List.mem_of_getElem? (l := tables_1_1) (i := 29) rfl))) rfl), fun h => by cases h⟩
set_option maxRecDepth 100000 in
theorem nl_1 : NPr (0, 9, 0, 7) := ⟨"OneAtATime", ("OneAtATime$BitList", kT0, 7), rfl, rfl, (gw (List.mem_append_right _ (List.mem_append_left _ (List.mem_of_getElem? (l := tables_1_1) (i := 29) rfl))) rfl), fun _ => rfl⟩
set_option maxRecDepth 100000 in
theorem nl_2 : NPr (0, 20, 3, 4) := ⟨"OneAtATime", ("OneAtATime$History", kT3, 4), rfl, rfl, (gw (List.mem_append_right _ (List.mem_append_left _ (List.mem_of_getElem? (l := tables_1_1) (i := 89) rfl))) rfl), fun _ => rfl⟩
set_option maxRecDepth 100000 in
theorem nl_3 : NPr (0, 27, 5, 6) := ⟨"OneAtATime", ("OneAtATime$Reader", kT5, 6), rfl, rfl, (gw (List.mem_append_right _ (List.mem_append_left _ (List.mem_of_getElem? (l := tables_1_1) (i := 111) rfl))) rfl), fun _ => rfl⟩
set_option maxRecDepth 100000 in
theorem nl_4 : NPr (0, 34, 1, 2) := ⟨"OneAtATime", ("OneAtATime$Bytes", kT1, 2), rfl, rfl, (gw (List.mem_append_right _ (List.mem_append_left _ (List.mem_of_getElem? (l := tables_1_1) (i := 158) rfl))) rfl), fun _ => rfl⟩
set_option maxRecDepth 100000 in
theorem nl_5 : NPr (0, 43, 7, 5) := ⟨"OneAtATime", ("OneAtATime$Survey", kT7, 5), rfl, rfl, (gw (List.mem_append_right _ (List.mem_append_left _ (List.mem_of_getElem? (l := tables_1_1) (i := 160) rfl))) rfl), fun _ => rfl⟩
set_option maxRecDepth 100000 in
theorem nl_6 : NPr (0, 50, 6, 3) := ⟨"OneAtATime", ("OneAtATime$Search", kT6, 3), rfl, rfl, (gw (List.mem_append_right _ (List.mem_append_left _ (List.mem_of_getElem? (l := tables_1_1) (i := 182) rfl))) rfl), fun _ => rfl⟩
set_option maxRecDepth 100000 in
theorem nl_7 : NPr (0, 57, 4, 2) := ⟨"OneAtATime", ("OneAtATime$Likeness", kT4, 2), rfl, rfl, (gw (List.mem_append_right _ (List.mem_append_left _ (List.mem_of_getElem? (l := tables_1_1) (i := 198) rfl))) rfl), fun _ => rfl⟩
set_option maxRecDepth 100000 in
theorem nl_8 : NPr (0, 64, 2, 5) := ⟨"OneAtATime", ("OneAtATime$Evenness", kT2, 5), rfl, rfl, (gw (List.mem_append_right _ (List.mem_append_left _ (List.mem_of_getElem? (l := tables_1_1) (i := 211) rfl))) rfl), fun _ => rfl⟩
set_option maxRecDepth 100000 in
theorem nl_9 : NPr (2, 9, 23, 0) := ⟨"OneAtATime$History", ("OneAtATime$BitList", kT0, 7), rfl, rfl, (gw (List.mem_append_right _ (List.mem_append_left _ (List.mem_of_getElem? (l := tables_1_1) (i := 95) rfl))) rfl), fun h => by cases h⟩
set_option maxRecDepth 100000 in
theorem nl_10 : NPr (2, 9, 0, 7) := ⟨"OneAtATime$History", ("OneAtATime$BitList", kT0, 7), rfl, rfl, (gw (List.mem_append_right _ (List.mem_append_left _ (List.mem_of_getElem? (l := tables_1_1) (i := 95) rfl))) rfl), fun _ => rfl⟩
set_option maxRecDepth 100000 in
theorem nl_11 : NPr (3, 9, 1, 2) := ⟨"OneAtATime$Reader", ("OneAtATime$Bytes", kT1, 2), rfl, rfl, (gw (List.mem_append_right _ (List.mem_append_left _ (List.mem_of_getElem? (l := tables_1_1) (i := 117) rfl))) rfl), fun _ => rfl⟩
set_option maxRecDepth 100000 in
theorem nl_12 : NPr (15, 7, 8, 9) := ⟨"OneAtATimeLaw", ("OneAtATime", kT8, 9), rfl, rfl, (gw (List.mem_append_right _ (List.mem_append_left _ (List.mem_of_getElem? (l := tables_1_1) (i := 21) rfl))) rfl), fun _ => rfl⟩
set_option maxRecDepth 100000 in
theorem nl_13 : NPr (15, 10, 9, 29) := ⟨"OneAtATimeLaw", ("OneAtATimeModel", kT9, 29), rfl, rfl, (gw (List.mem_append_right _ (List.mem_append_right _ (List.mem_append_right _ (List.mem_append_right _ (List.mem_append_right _ (List.mem_append_left _ (List.mem_of_getElem? (l := tables_1_5) (i := 49) rfl))))))) rfl), fun _ => rfl⟩
set_option maxRecDepth 100000 in
theorem nt_ok : ∀ e ∈ ntL, NPr e := List.forall_mem_cons.mpr ⟨nl_0, List.forall_mem_cons.mpr ⟨nl_1, List.forall_mem_cons.mpr ⟨nl_2, List.forall_mem_cons.mpr ⟨nl_3, List.forall_mem_cons.mpr ⟨nl_4, List.forall_mem_cons.mpr ⟨nl_5, List.forall_mem_cons.mpr ⟨nl_6, List.forall_mem_cons.mpr ⟨nl_7, List.forall_mem_cons.mpr ⟨nl_8, List.forall_mem_cons.mpr ⟨nl_9, List.forall_mem_cons.mpr ⟨nl_10, List.forall_mem_cons.mpr ⟨nl_11, List.forall_mem_cons.mpr ⟨nl_12, List.forall_mem_cons.mpr ⟨nl_13, fun _ h => absurd h List.not_mem_nil⟩⟩⟩⟩⟩⟩⟩⟩⟩⟩⟩⟩⟩⟩
def KPr (e : Nat × Nat × Nat) : Prop := ∃ own : String, ownL[e.1]? = some own ∧ Jvm.Cond.constant own e.2.1 (Int32.ofInt (e.2.2 : Int)) ∈ gtb
theorem kl_0 : KPr (11, 265, 1431655765) := ⟨"java/lang/Integer", rfl, gw (List.mem_append_right _ (List.mem_of_getElem? (i := 480) (by decide +kernel))) rfl⟩
theorem kl_1 : KPr (11, 266, 858993459) := ⟨"java/lang/Integer", rfl, gw (List.mem_append_right _ (List.mem_of_getElem? (i := 481) (by decide +kernel))) rfl⟩
theorem kl_2 : KPr (11, 267, 252645135) := ⟨"java/lang/Integer", rfl, gw (List.mem_append_right _ (List.mem_of_getElem? (i := 482) (by decide +kernel))) rfl⟩
theorem kl_3 : KPr (11, 264, 65536) := ⟨"java/lang/Integer", rfl, gw (List.mem_append_right _ (List.mem_of_getElem? (i := 683) (by decide +kernel))) rfl⟩
theorem kl_4 : KPr (0, 245, 50000) := ⟨"OneAtATime", rfl, gw (List.mem_append_right _ (List.mem_of_getElem? (i := 716) (by decide +kernel))) rfl⟩
theorem kl_5 : KPr (7, 42, 1000000) := ⟨"OneAtATime$Search", rfl, gw (List.mem_append_right _ (List.mem_of_getElem? (i := 729) (by decide +kernel))) rfl⟩
theorem kl_6 : KPr (9, 33, 65536) := ⟨"OneAtATime$Evenness", rfl, gw (List.mem_append_right _ (List.mem_of_getElem? (i := 822) (by decide +kernel))) rfl⟩
set_option maxRecDepth 100000 in
theorem kc_ok : ∀ e ∈ kcL, KPr e := List.forall_mem_cons.mpr ⟨kl_0, List.forall_mem_cons.mpr ⟨kl_1, List.forall_mem_cons.mpr ⟨kl_2, List.forall_mem_cons.mpr ⟨kl_3, List.forall_mem_cons.mpr ⟨kl_4, List.forall_mem_cons.mpr ⟨kl_5, List.forall_mem_cons.mpr ⟨kl_6, fun _ h => absurd h List.not_mem_nil⟩⟩⟩⟩⟩⟩⟩
def LPr (e : Nat × Nat × Nat × Nat) : Prop := ∃ own : String, ownL[e.1]? = some own ∧ Jvm.Cond.constantLong own e.2.1 (Int64.ofInt (bif Nat.beq e.2.2.2 1 then -(e.2.2.1 : Int) else (e.2.2.1 : Int))) ∈ gtb
theorem ll_0 : LPr (13, 314, 6148914691236517205, 0) := ⟨"java/lang/Long", rfl, gw (List.mem_append_right _ (List.mem_of_getElem? (i := 771) (by decide +kernel))) rfl⟩
theorem ll_1 : LPr (13, 316, 3689348814741910323, 0) := ⟨"java/lang/Long", rfl, gw (List.mem_append_right _ (List.mem_of_getElem? (i := 772) (by decide +kernel))) rfl⟩
theorem ll_2 : LPr (13, 318, 1085102592571150095, 0) := ⟨"java/lang/Long", rfl, gw (List.mem_append_right _ (List.mem_of_getElem? (i := 773) (by decide +kernel))) rfl⟩
theorem ll_3 : LPr (0, 267, 2, 1) := ⟨"OneAtATime", rfl, gw (List.mem_append_right _ (List.mem_of_getElem? (i := 810) (by decide +kernel))) rfl⟩
theorem ll_4 : LPr (0, 269, 5, 1) := ⟨"OneAtATime", rfl, gw (List.mem_append_right _ (List.mem_of_getElem? (i := 811) (by decide +kernel))) rfl⟩
theorem ll_5 : LPr (0, 271, 6, 1) := ⟨"OneAtATime", rfl, gw (List.mem_append_right _ (List.mem_of_getElem? (i := 812) (by decide +kernel))) rfl⟩
theorem ll_6 : LPr (14, 58, 2, 0) := ⟨"OneAtATimeModel", rfl, gw (List.mem_append_right _ (List.mem_of_getElem? (i := 1115) (by decide +kernel))) rfl⟩
theorem ll_7 : LPr (14, 224, 6, 0) := ⟨"OneAtATimeModel", rfl, gw (List.mem_append_right _ (List.mem_of_getElem? (i := 1210) (by decide +kernel))) rfl⟩
theorem ll_8 : LPr (14, 229, 7, 0) := ⟨"OneAtATimeModel", rfl, gw (List.mem_append_right _ (List.mem_of_getElem? (i := 1278) (by decide +kernel))) rfl⟩
theorem ll_9 : LPr (14, 276, 3, 0) := ⟨"OneAtATimeModel", rfl, gw (List.mem_append_right _ (List.mem_of_getElem? (i := 1395) (by decide +kernel))) rfl⟩
theorem ll_10 : LPr (14, 278, 50000, 0) := ⟨"OneAtATimeModel", rfl, gw (List.mem_append_right _ (List.mem_of_getElem? (i := 1396) (by decide +kernel))) rfl⟩
theorem ll_11 : LPr (14, 301, 2, 1) := ⟨"OneAtATimeModel", rfl, gw (List.mem_append_right _ (List.mem_of_getElem? (i := 1436) (by decide +kernel))) rfl⟩
theorem ll_12 : LPr (14, 303, 5, 1) := ⟨"OneAtATimeModel", rfl, gw (List.mem_append_right _ (List.mem_of_getElem? (i := 1437) (by decide +kernel))) rfl⟩
theorem ll_13 : LPr (14, 305, 6, 1) := ⟨"OneAtATimeModel", rfl, gw (List.mem_append_right _ (List.mem_of_getElem? (i := 1438) (by decide +kernel))) rfl⟩
theorem ll_14 : LPr (15, 129, 4294967295, 0) := ⟨"OneAtATimeLaw", rfl, gw (List.mem_append_right _ (List.mem_of_getElem? (i := 1560) (by decide +kernel))) rfl⟩
set_option maxRecDepth 100000 in
theorem kl_ok : ∀ e ∈ klL, LPr e := List.forall_mem_cons.mpr ⟨ll_0, List.forall_mem_cons.mpr ⟨ll_1, List.forall_mem_cons.mpr ⟨ll_2, List.forall_mem_cons.mpr ⟨ll_3, List.forall_mem_cons.mpr ⟨ll_4, List.forall_mem_cons.mpr ⟨ll_5, List.forall_mem_cons.mpr ⟨ll_6, List.forall_mem_cons.mpr ⟨ll_7, List.forall_mem_cons.mpr ⟨ll_8, List.forall_mem_cons.mpr ⟨ll_9, List.forall_mem_cons.mpr ⟨ll_10, List.forall_mem_cons.mpr ⟨ll_11, List.forall_mem_cons.mpr ⟨ll_12, List.forall_mem_cons.mpr ⟨ll_13, List.forall_mem_cons.mpr ⟨ll_14, fun _ h => absurd h List.not_mem_nil⟩⟩⟩⟩⟩⟩⟩⟩⟩⟩⟩⟩⟩⟩⟩
def strL : List String := ["", "", " levels ", " start ", " to ", ":", ";", "bits", "bits ", "levels", "start", "to"]
def SPr (e : Nat × Nat × Nat) : Prop := ∃ (own tx : String), ownL[e.1]? = some own ∧ strL[e.2.2]? = some tx ∧ 2 ≤ e.2.2 ∧ e.2.2 < 12 
set_option maxRecDepth 100000 in
theorem sl_0 : SPr (3, 54, 7) := ⟨"OneAtATime$Reader", "bits", rfl, rfl, by decide, by decide⟩
set_option maxRecDepth 100000 in
theorem sl_1 : SPr (3, 64, 9) := ⟨"OneAtATime$Reader", "levels", rfl, rfl, by decide, by decide⟩
set_option maxRecDepth 100000 in
theorem sl_2 : SPr (3, 70, 11) := ⟨"OneAtATime$Reader", "to", rfl, rfl, by decide, by decide⟩
set_option maxRecDepth 100000 in
theorem sl_3 : SPr (3, 71, 10) := ⟨"OneAtATime$Reader", "start", rfl, rfl, by decide, by decide⟩
set_option maxRecDepth 100000 in
theorem sl_4 : SPr (4, 38, 8) := ⟨"OneAtATime$Bytes", "bits ", rfl, rfl, by decide, by decide⟩
set_option maxRecDepth 100000 in
theorem sl_5 : SPr (4, 52, 2) := ⟨"OneAtATime$Bytes", " levels ", rfl, rfl, by decide, by decide⟩
set_option maxRecDepth 100000 in
theorem sl_6 : SPr (4, 57, 4) := ⟨"OneAtATime$Bytes", " to ", rfl, rfl, by decide, by decide⟩
set_option maxRecDepth 100000 in
theorem sl_7 : SPr (4, 62, 3) := ⟨"OneAtATime$Bytes", " start ", rfl, rfl, by decide, by decide⟩
set_option maxRecDepth 100000 in
theorem sl_8 : SPr (14, 162, 7) := ⟨"OneAtATimeModel", "bits", rfl, rfl, by decide, by decide⟩
set_option maxRecDepth 100000 in
theorem sl_9 : SPr (14, 170, 9) := ⟨"OneAtATimeModel", "levels", rfl, rfl, by decide, by decide⟩
set_option maxRecDepth 100000 in
theorem sl_10 : SPr (14, 172, 11) := ⟨"OneAtATimeModel", "to", rfl, rfl, by decide, by decide⟩
set_option maxRecDepth 100000 in
theorem sl_11 : SPr (14, 174, 10) := ⟨"OneAtATimeModel", "start", rfl, rfl, by decide, by decide⟩
set_option maxRecDepth 100000 in
theorem sl_12 : SPr (14, 343, 8) := ⟨"OneAtATimeModel", "bits ", rfl, rfl, by decide, by decide⟩
set_option maxRecDepth 100000 in
theorem sl_13 : SPr (14, 349, 2) := ⟨"OneAtATimeModel", " levels ", rfl, rfl, by decide, by decide⟩
set_option maxRecDepth 100000 in
theorem sl_14 : SPr (14, 351, 4) := ⟨"OneAtATimeModel", " to ", rfl, rfl, by decide, by decide⟩
set_option maxRecDepth 100000 in
theorem sl_15 : SPr (14, 353, 3) := ⟨"OneAtATimeModel", " start ", rfl, rfl, by decide, by decide⟩
set_option maxRecDepth 100000 in
theorem sl_16 : SPr (14, 355, 5) := ⟨"OneAtATimeModel", ":", rfl, rfl, by decide, by decide⟩
set_option maxRecDepth 100000 in
theorem sl_17 : SPr (14, 357, 6) := ⟨"OneAtATimeModel", ";", rfl, rfl, by decide, by decide⟩
set_option maxRecDepth 100000 in
theorem sc_ok : ∀ e ∈ scL, SPr e := List.forall_mem_cons.mpr ⟨sl_0, List.forall_mem_cons.mpr ⟨sl_1, List.forall_mem_cons.mpr ⟨sl_2, List.forall_mem_cons.mpr ⟨sl_3, List.forall_mem_cons.mpr ⟨sl_4, List.forall_mem_cons.mpr ⟨sl_5, List.forall_mem_cons.mpr ⟨sl_6, List.forall_mem_cons.mpr ⟨sl_7, List.forall_mem_cons.mpr ⟨sl_8, List.forall_mem_cons.mpr ⟨sl_9, List.forall_mem_cons.mpr ⟨sl_10, List.forall_mem_cons.mpr ⟨sl_11, List.forall_mem_cons.mpr ⟨sl_12, List.forall_mem_cons.mpr ⟨sl_13, List.forall_mem_cons.mpr ⟨sl_14, List.forall_mem_cons.mpr ⟨sl_15, List.forall_mem_cons.mpr ⟨sl_16, List.forall_mem_cons.mpr ⟨sl_17, fun _ h => absurd h List.not_mem_nil⟩⟩⟩⟩⟩⟩⟩⟩⟩⟩⟩⟩⟩⟩⟩⟩⟩⟩
