/-- a method's own words -/
def MFr (q : MR) (n : Nat) : Prop := Jvm.Cond.code q.2.1 q.2.2.1 q.2.2.2.1 q.2.2.2.2.1 ∈ gtb ∧ Jvm.Cond.initialized q.2.1.cls ∈ gtb ∧ (parseMethodDescriptor q.2.1.desc).map (fun d => d.parameters.length) = some n ∧ plainName q.2.1.cls = true
def MathW (y : MethodName) (cc : ByteArray) (n : Nat) (t : FieldType) : Prop := Jvm.Cond.static y ∈ gtb ∧ Jvm.Cond.initialized "java/lang/Math" ∈ gtb ∧ Jvm.Cond.code y cc n (some t) ∈ gtb
/-- a call's link: own class, entry, kind (0 static, 1 virtual, 2 special), callee, how many arguments, kind of answer, class of the receiver -/
def MPr (e : List Nat) : Prop := match e with
  | [o, x, 0, 1002, 5, 0, 0] => ∃ own : String, ownL[o]? = some own ∧ Jvm.Cond.methodLink own x arraycopyName ∈ gtb ∧ Jvm.Cond.native arraycopyName ∈ gtb ∧ Jvm.Cond.static arraycopyName ∈ gtb ∧ Jvm.Cond.initialized "java/lang/System" ∈ gtb
  | [o, x, 0, 1004, 2, 1, 0] => ∃ own : String, ownL[o]? = some own ∧ Jvm.Cond.methodLink own x Lib.Math.max.name ∈ gtb ∧ MathW Lib.Math.max.name Lib.Math.max.code 2 .int
  | [o, x, 0, 1005, 2, 1, 0] => ∃ own : String, ownL[o]? = some own ∧ Jvm.Cond.methodLink own x Lib.Math.min.name ∈ gtb ∧ MathW Lib.Math.min.name Lib.Math.min.code 2 .int
  | [o, x, 0, 1006, 1, 1, 0] => ∃ own : String, ownL[o]? = some own ∧ Jvm.Cond.methodLink own x Lib.Math.abs.name ∈ gtb ∧ MathW Lib.Math.abs.name Lib.Math.abs.code 1 .int
  | [o, x, 0, 1007, 2, 3, 0] => ∃ own : String, ownL[o]? = some own ∧ Jvm.Cond.methodLink own x Lib.MathLoose.min_long.x ∈ gtb ∧ MathW Lib.MathLoose.min_long.x Lib.MathLoose.min_long.code 4 .long
  | [o, x, 1, 1000, 1, 1, 30] => ∃ own : String, ownL[o]? = some own ∧ Jvm.Cond.methodLink own x ⟨"java/lang/String", "length", "()I"⟩ ∈ gtb
  | [o, x, 1, 1001, 2, 1, 30] => ∃ own : String, ownL[o]? = some own ∧ Jvm.Cond.methodLink own x ⟨"java/lang/String", "charAt", "(I)C"⟩ ∈ gtb
  | [o, x, 2, 1003, 1, 0, 0] => ∃ own : String, ownL[o]? = some own ∧ Jvm.Cond.methodLink own x Lib.objectInit ∈ gtb ∧ Jvm.Cond.instanceMethod Lib.objectInit ∈ gtb ∧ Jvm.Cond.code Lib.objectInit ⟨#[0xb1]⟩ 1 none ∈ gtb
  | [o, x, 0, k, n, r, 0] => ∃ (own : String) (q : MR), ownL[o]? = some own ∧ prog[k]? = some q ∧ Jvm.Cond.methodLink own x q.2.1 ∈ gtb ∧ Jvm.Cond.static q.2.1 ∈ gtb ∧ MFr q n ∧ retK q.2.2.2.2.1 = r ∧ k < 1000
  | [o, x, 1, k, n + 1, r, cl] => ∃ (own : String) (q : MR) (c : vw_C), ownL[o]? = some own ∧ prog[k]? = some q ∧ cls0[cl]? = some c ∧ c.1 = q.2.1.cls ∧ Jvm.Cond.methodLink own x q.2.1 ∈ gtb ∧ (Jvm.Cond.instanceMethod q.2.1 ∈ gtb ∧ Jvm.Cond.selects q.2.1.cls q.2.1 q.2.1 ∈ gtb) ∧ MFr q n ∧ retK q.2.2.2.2.1 = r ∧ k < 1000
  | [o, x, 2, k, n + 1, 0, 0] => ∃ (own : String) (q : MR), ownL[o]? = some own ∧ prog[k]? = some q ∧ q.2.1.name = "<init>" ∧ Jvm.Cond.methodLink own x q.2.1 ∈ gtb ∧ Jvm.Cond.instanceMethod q.2.1 ∈ gtb ∧ MFr q n ∧ q.2.2.2.2.1 = none ∧ k < 1000
  | _ => False
set_option maxRecDepth 100000 in
theorem ini_0 : Jvm.Cond.initialized "OneAtATime" ∈ gtb := (gw (List.mem_append_right _ (List.mem_append_left _ (List.mem_of_getElem? (l := tables_1_1) (i := 1) rfl))) rfl)
set_option maxRecDepth 100000 in
theorem ini_1 : Jvm.Cond.initialized "OneAtATime$BitList" ∈ gtb := (gw (List.mem_append_right _ (List.mem_append_left _ (List.mem_of_getElem? (l := tables_1_1) (i := 2) rfl))) rfl)
set_option maxRecDepth 100000 in
theorem ini_2 : Jvm.Cond.initialized "OneAtATime$History" ∈ gtb := (gw (List.mem_append_right _ (List.mem_append_left _ (List.mem_of_getElem? (l := tables_1_1) (i := 3) rfl))) rfl)
set_option maxRecDepth 100000 in
theorem ini_3 : Jvm.Cond.initialized "OneAtATime$Reader" ∈ gtb := (gw (List.mem_append_right _ (List.mem_append_left _ (List.mem_of_getElem? (l := tables_1_1) (i := 4) rfl))) rfl)
set_option maxRecDepth 100000 in
theorem ini_4 : Jvm.Cond.initialized "OneAtATime$Bytes" ∈ gtb := (gw (List.mem_append_right _ (List.mem_append_left _ (List.mem_of_getElem? (l := tables_1_1) (i := 5) rfl))) rfl)
set_option maxRecDepth 100000 in
theorem ini_5 : Jvm.Cond.initialized "java/lang/Math" ∈ gtb := (gw (List.mem_append_right _ (List.mem_append_left _ (List.mem_of_getElem? (l := tables_1_1) (i := 6) rfl))) rfl)
set_option maxRecDepth 100000 in
theorem ini_6 : Jvm.Cond.initialized "OneAtATime$Survey" ∈ gtb := (gw (List.mem_append_right _ (List.mem_append_left _ (List.mem_of_getElem? (l := tables_1_1) (i := 7) rfl))) rfl)
set_option maxRecDepth 100000 in
theorem ini_7 : Jvm.Cond.initialized "OneAtATime$Search" ∈ gtb := (gw (List.mem_append_right _ (List.mem_append_left _ (List.mem_of_getElem? (l := tables_1_1) (i := 8) rfl))) rfl)
set_option maxRecDepth 100000 in
theorem ini_8 : Jvm.Cond.initialized "OneAtATime$Likeness" ∈ gtb := (gw (List.mem_append_right _ (List.mem_append_left _ (List.mem_of_getElem? (l := tables_1_1) (i := 9) rfl))) rfl)
set_option maxRecDepth 100000 in
theorem ini_9 : Jvm.Cond.initialized "OneAtATime$Evenness" ∈ gtb := (gw (List.mem_append_right _ (List.mem_append_left _ (List.mem_of_getElem? (l := tables_1_1) (i := 10) rfl))) rfl)
set_option maxRecDepth 100000 in
theorem ini_10 : Jvm.Cond.initialized "java/util/Arrays" ∈ gtb := (gw (List.mem_append_right _ (List.mem_append_left _ (List.mem_of_getElem? (l := tables_1_1) (i := 17) rfl))) rfl)
set_option maxRecDepth 100000 in
theorem ini_11 : Jvm.Cond.initialized "java/lang/Integer" ∈ gtb := (gw (List.mem_append_right _ (List.mem_append_left _ (List.mem_of_getElem? (l := tables_1_1) (i := 18) rfl))) rfl)
set_option maxRecDepth 100000 in
theorem ini_12 : Jvm.Cond.initialized "OneAtATime$Maker" ∈ gtb := (gw (List.mem_append_right _ (List.mem_append_left _ (List.mem_of_getElem? (l := tables_1_1) (i := 19) rfl))) rfl)
set_option maxRecDepth 100000 in
theorem ini_13 : Jvm.Cond.initialized "java/lang/Long" ∈ gtb := (gw (List.mem_append_right _ (List.mem_append_left _ (List.mem_of_getElem? (l := tables_1_1) (i := 20) rfl))) rfl)
set_option maxRecDepth 100000 in
theorem ini_14 : Jvm.Cond.initialized "OneAtATimeModel" ∈ gtb := (gw (List.mem_append_right _ (List.mem_append_left _ (List.mem_of_getElem? (l := tables_1_1) (i := 11) rfl))) rfl)
set_option maxRecDepth 100000 in
theorem ini_15 : Jvm.Cond.initialized "OneAtATimeLaw" ∈ gtb := (gw (List.mem_append_right _ (List.mem_append_left _ (List.mem_of_getElem? (l := tables_1_1) (i := 0) rfl))) rfl)
set_option maxRecDepth 100000 in
theorem ini_16 : Jvm.Cond.initialized "java/lang/System" ∈ gtb := (gw (List.mem_append_right _ (List.mem_append_left _ (List.mem_of_getElem? (l := tables_1_1) (i := 16) rfl))) rfl)
set_option maxRecDepth 100000 in
theorem mw_1004 : MathW Lib.Math.max.name Lib.Math.max.code 2 .int := ⟨(gw (List.mem_append_right _ (List.mem_append_left _ (List.mem_of_getElem? (l := tables_1_1) (i := 124) rfl))) rfl), ini_5, (gw (List.mem_append_right _ (List.mem_append_left _ (List.mem_of_getElem? (l := tables_1_1) (i := 125) rfl))) rfl)⟩
set_option maxRecDepth 100000 in
theorem mw_1005 : MathW Lib.Math.min.name Lib.Math.min.code 2 .int := ⟨(gw (List.mem_append_right _ (List.mem_append_right _ (List.mem_append_left _ (List.mem_of_getElem? (l := tables_1_2) (i := 181) rfl)))) rfl), ini_5, (gw (List.mem_append_right _ (List.mem_append_right _ (List.mem_append_left _ (List.mem_of_getElem? (l := tables_1_2) (i := 182) rfl)))) rfl)⟩
set_option maxRecDepth 100000 in
theorem mw_1006 : MathW Lib.Math.abs.name Lib.Math.abs.code 1 .int := ⟨(gw (List.mem_append_right _ (List.mem_append_right _ (List.mem_append_right _ (List.mem_append_left _ (List.mem_of_getElem? (l := tables_1_3) (i := 39) rfl))))) rfl), ini_5, (gw (List.mem_append_right _ (List.mem_append_right _ (List.mem_append_right _ (List.mem_append_left _ (List.mem_of_getElem? (l := tables_1_3) (i := 40) rfl))))) rfl)⟩
set_option maxRecDepth 100000 in
theorem mw_1007 : MathW Lib.MathLoose.min_long.x Lib.MathLoose.min_long.code 4 .long := ⟨(gw (List.mem_append_right _ (List.mem_append_right _ (List.mem_append_right _ (List.mem_append_right _ (List.mem_append_left _ (List.mem_of_getElem? (l := tables_1_4) (i := 115) rfl)))))) rfl), ini_5, (gw (List.mem_append_right _ (List.mem_append_right _ (List.mem_append_right _ (List.mem_append_right _ (List.mem_append_left _ (List.mem_of_getElem? (l := tables_1_4) (i := 116) rfl)))))) rfl)⟩
set_option maxRecDepth 100000 in
theorem ml_0 : MPr [0, 1, 2, 1003, 1, 0, 0] := ⟨"OneAtATime", rfl, (gw (List.mem_append_right _ (List.mem_append_left _ (List.mem_of_getElem? (l := tables_1_1) (i := 26) rfl))) rfl), (gw (List.mem_append_right _ (List.mem_append_left _ (List.mem_of_getElem? (l := tables_1_1) (i := 27) rfl))) rfl), (gw (List.mem_append_right _ (List.mem_append_left _ (List.mem_of_getElem? (l := tables_1_1) (i := 28) rfl))) rfl)⟩
set_option maxRecDepth 100000 in
theorem mf_1 : MFr pm_1 0 := ⟨(gw (List.mem_append_right _ (List.mem_append_left _ (List.mem_of_getElem? (l := tables_1_1) (i := 34) rfl))) rfl), ini_1, by decide +kernel, by decide +kernel⟩
set_option maxRecDepth 100000 in
theorem mi_1 : Jvm.Cond.instanceMethod pm_1.2.1 ∈ gtb := (gw (List.mem_append_right _ (List.mem_append_left _ (List.mem_of_getElem? (l := tables_1_1) (i := 33) rfl))) rfl)
set_option maxRecDepth 100000 in
theorem ml_1 : MPr [0, 15, 2, 1, 1, 0, 0] := ⟨"OneAtATime", pm_1, rfl, rfl, rfl, (gw (List.mem_append_right _ (List.mem_append_left _ (List.mem_of_getElem? (l := tables_1_1) (i := 32) rfl))) rfl), mi_1, mf_1, rfl, Nat.le_of_ble_eq_true rfl⟩
set_option maxRecDepth 100000 in
theorem mf_2 : MFr pm_2 0 := ⟨(gw (List.mem_append_right _ (List.mem_append_left _ (List.mem_of_getElem? (l := tables_1_1) (i := 93) rfl))) rfl), ini_2, by decide +kernel, by decide +kernel⟩
set_option maxRecDepth 100000 in
theorem mi_2 : Jvm.Cond.instanceMethod pm_2.2.1 ∈ gtb := (gw (List.mem_append_right _ (List.mem_append_left _ (List.mem_of_getElem? (l := tables_1_1) (i := 92) rfl))) rfl)
set_option maxRecDepth 100000 in
theorem ml_2 : MPr [0, 22, 2, 2, 1, 0, 0] := ⟨"OneAtATime", pm_2, rfl, rfl, rfl, (gw (List.mem_append_right _ (List.mem_append_left _ (List.mem_of_getElem? (l := tables_1_1) (i := 91) rfl))) rfl), mi_2, mf_2, rfl, Nat.le_of_ble_eq_true rfl⟩
set_option maxRecDepth 100000 in
theorem mf_3 : MFr pm_3 0 := ⟨(gw (List.mem_append_right _ (List.mem_append_left _ (List.mem_of_getElem? (l := tables_1_1) (i := 115) rfl))) rfl), ini_3, by decide +kernel, by decide +kernel⟩
set_option maxRecDepth 100000 in
theorem mi_3 : Jvm.Cond.instanceMethod pm_3.2.1 ∈ gtb := (gw (List.mem_append_right _ (List.mem_append_left _ (List.mem_of_getElem? (l := tables_1_1) (i := 114) rfl))) rfl)
set_option maxRecDepth 100000 in
theorem ml_3 : MPr [0, 29, 2, 3, 1, 0, 0] := ⟨"OneAtATime", pm_3, rfl, rfl, rfl, (gw (List.mem_append_right _ (List.mem_append_left _ (List.mem_of_getElem? (l := tables_1_1) (i := 113) rfl))) rfl), mi_3, mf_3, rfl, Nat.le_of_ble_eq_true rfl⟩
set_option maxRecDepth 100000 in
theorem mf_4 : MFr pm_4 1 := ⟨(gw (List.mem_append_right _ (List.mem_append_left _ (List.mem_of_getElem? (l := tables_1_1) (i := 121) rfl))) rfl), ini_4, by decide +kernel, by decide +kernel⟩
set_option maxRecDepth 100000 in
theorem mi_4 : Jvm.Cond.instanceMethod pm_4.2.1 ∈ gtb := (gw (List.mem_append_right _ (List.mem_append_left _ (List.mem_of_getElem? (l := tables_1_1) (i := 120) rfl))) rfl)
set_option maxRecDepth 100000 in
theorem ml_4 : MPr [0, 36, 2, 4, 2, 0, 0] := ⟨"OneAtATime", pm_4, rfl, rfl, rfl, (gw (List.mem_append_right _ (List.mem_append_left _ (List.mem_of_getElem? (l := tables_1_1) (i := 159) rfl))) rfl), mi_4, mf_4, rfl, Nat.le_of_ble_eq_true rfl⟩
set_option maxRecDepth 100000 in
theorem mf_6 : MFr pm_6 0 := ⟨(gw (List.mem_append_right _ (List.mem_append_left _ (List.mem_of_getElem? (l := tables_1_1) (i := 164) rfl))) rfl), ini_6, by decide +kernel, by decide +kernel⟩
set_option maxRecDepth 100000 in
theorem mi_6 : Jvm.Cond.instanceMethod pm_6.2.1 ∈ gtb := (gw (List.mem_append_right _ (List.mem_append_left _ (List.mem_of_getElem? (l := tables_1_1) (i := 163) rfl))) rfl)
set_option maxRecDepth 100000 in
theorem ml_5 : MPr [0, 45, 2, 6, 1, 0, 0] := ⟨"OneAtATime", pm_6, rfl, rfl, rfl, (gw (List.mem_append_right _ (List.mem_append_left _ (List.mem_of_getElem? (l := tables_1_1) (i := 162) rfl))) rfl), mi_6, mf_6, rfl, Nat.le_of_ble_eq_true rfl⟩
set_option maxRecDepth 100000 in
theorem mf_7 : MFr pm_7 0 := ⟨(gw (List.mem_append_right _ (List.mem_append_left _ (List.mem_of_getElem? (l := tables_1_1) (i := 186) rfl))) rfl), ini_7, by decide +kernel, by decide +kernel⟩
set_option maxRecDepth 100000 in
theorem mi_7 : Jvm.Cond.instanceMethod pm_7.2.1 ∈ gtb := (gw (List.mem_append_right _ (List.mem_append_left _ (List.mem_of_getElem? (l := tables_1_1) (i := 185) rfl))) rfl)
set_option maxRecDepth 100000 in
theorem ml_6 : MPr [0, 52, 2, 7, 1, 0, 0] := ⟨"OneAtATime", pm_7, rfl, rfl, rfl, (gw (List.mem_append_right _ (List.mem_append_left _ (List.mem_of_getElem? (l := tables_1_1) (i := 184) rfl))) rfl), mi_7, mf_7, rfl, Nat.le_of_ble_eq_true rfl⟩
set_option maxRecDepth 100000 in
theorem mf_8 : MFr pm_8 0 := ⟨(gw (List.mem_append_right _ (List.mem_append_left _ (List.mem_of_getElem? (l := tables_1_1) (i := 202) rfl))) rfl), ini_8, by decide +kernel, by decide +kernel⟩
set_option maxRecDepth 100000 in
theorem mi_8 : Jvm.Cond.instanceMethod pm_8.2.1 ∈ gtb := (gw (List.mem_append_right _ (List.mem_append_left _ (List.mem_of_getElem? (l := tables_1_1) (i := 201) rfl))) rfl)
set_option maxRecDepth 100000 in
theorem ml_7 : MPr [0, 59, 2, 8, 1, 0, 0] := ⟨"OneAtATime", pm_8, rfl, rfl, rfl, (gw (List.mem_append_right _ (List.mem_append_left _ (List.mem_of_getElem? (l := tables_1_1) (i := 200) rfl))) rfl), mi_8, mf_8, rfl, Nat.le_of_ble_eq_true rfl⟩
set_option maxRecDepth 100000 in
theorem mf_9 : MFr pm_9 0 := ⟨(gw (List.mem_append_right _ (List.mem_append_left _ (List.mem_of_getElem? (l := tables_1_1) (i := 215) rfl))) rfl), ini_9, by decide +kernel, by decide +kernel⟩
set_option maxRecDepth 100000 in
theorem mi_9 : Jvm.Cond.instanceMethod pm_9.2.1 ∈ gtb := (gw (List.mem_append_right _ (List.mem_append_left _ (List.mem_of_getElem? (l := tables_1_1) (i := 214) rfl))) rfl)
set_option maxRecDepth 100000 in
theorem ml_8 : MPr [0, 66, 2, 9, 1, 0, 0] := ⟨"OneAtATime", pm_9, rfl, rfl, rfl, (gw (List.mem_append_right _ (List.mem_append_left _ (List.mem_of_getElem? (l := tables_1_1) (i := 213) rfl))) rfl), mi_9, mf_9, rfl, Nat.le_of_ble_eq_true rfl⟩
set_option maxRecDepth 100000 in
theorem ml_9 : MPr [1, 3, 2, 1003, 1, 0, 0] := ⟨"OneAtATime$BitList", rfl, (gw (List.mem_append_right _ (List.mem_append_left _ (List.mem_of_getElem? (l := tables_1_1) (i := 35) rfl))) rfl), (gw (List.mem_append_right _ (List.mem_append_left _ (List.mem_of_getElem? (l := tables_1_1) (i := 27) rfl))) rfl), (gw (List.mem_append_right _ (List.mem_append_left _ (List.mem_of_getElem? (l := tables_1_1) (i := 28) rfl))) rfl)⟩
set_option maxRecDepth 100000 in
theorem ml_10 : MPr [2, 3, 2, 1003, 1, 0, 0] := ⟨"OneAtATime$History", rfl, (gw (List.mem_append_right _ (List.mem_append_left _ (List.mem_of_getElem? (l := tables_1_1) (i := 94) rfl))) rfl), (gw (List.mem_append_right _ (List.mem_append_left _ (List.mem_of_getElem? (l := tables_1_1) (i := 27) rfl))) rfl), (gw (List.mem_append_right _ (List.mem_append_left _ (List.mem_of_getElem? (l := tables_1_1) (i := 28) rfl))) rfl)⟩
set_option maxRecDepth 100000 in
theorem ml_11 : MPr [2, 17, 2, 1, 1, 0, 0] := ⟨"OneAtATime$History", pm_1, rfl, rfl, rfl, (gw (List.mem_append_right _ (List.mem_append_left _ (List.mem_of_getElem? (l := tables_1_1) (i := 96) rfl))) rfl), mi_1, mf_1, rfl, Nat.le_of_ble_eq_true rfl⟩
set_option maxRecDepth 100000 in
theorem ml_12 : MPr [3, 3, 2, 1003, 1, 0, 0] := ⟨"OneAtATime$Reader", rfl, (gw (List.mem_append_right _ (List.mem_append_left _ (List.mem_of_getElem? (l := tables_1_1) (i := 116) rfl))) rfl), (gw (List.mem_append_right _ (List.mem_append_left _ (List.mem_of_getElem? (l := tables_1_1) (i := 27) rfl))) rfl), (gw (List.mem_append_right _ (List.mem_append_left _ (List.mem_of_getElem? (l := tables_1_1) (i := 28) rfl))) rfl)⟩
set_option maxRecDepth 100000 in
theorem ml_13 : MPr [3, 11, 2, 4, 2, 0, 0] := ⟨"OneAtATime$Reader", pm_4, rfl, rfl, rfl, (gw (List.mem_append_right _ (List.mem_append_left _ (List.mem_of_getElem? (l := tables_1_1) (i := 119) rfl))) rfl), mi_4, mf_4, rfl, Nat.le_of_ble_eq_true rfl⟩
set_option maxRecDepth 100000 in
theorem ml_14 : MPr [4, 3, 2, 1003, 1, 0, 0] := ⟨"OneAtATime$Bytes", rfl, (gw (List.mem_append_right _ (List.mem_append_left _ (List.mem_of_getElem? (l := tables_1_1) (i := 122) rfl))) rfl), (gw (List.mem_append_right _ (List.mem_append_left _ (List.mem_of_getElem? (l := tables_1_1) (i := 27) rfl))) rfl), (gw (List.mem_append_right _ (List.mem_append_left _ (List.mem_of_getElem? (l := tables_1_1) (i := 28) rfl))) rfl)⟩
set_option maxRecDepth 100000 in
theorem ml_15 : MPr [4, 9, 0, 1004, 2, 1, 0] := ⟨"OneAtATime$Bytes", rfl, (gw (List.mem_append_right _ (List.mem_append_left _ (List.mem_of_getElem? (l := tables_1_1) (i := 123) rfl))) rfl), mw_1004⟩
set_option maxRecDepth 100000 in
theorem ml_16 : MPr [6, 3, 2, 1003, 1, 0, 0] := ⟨"OneAtATime$Survey", rfl, (gw (List.mem_append_right _ (List.mem_append_left _ (List.mem_of_getElem? (l := tables_1_1) (i := 165) rfl))) rfl), (gw (List.mem_append_right _ (List.mem_append_left _ (List.mem_of_getElem? (l := tables_1_1) (i := 27) rfl))) rfl), (gw (List.mem_append_right _ (List.mem_append_left _ (List.mem_of_getElem? (l := tables_1_1) (i := 28) rfl))) rfl)⟩
set_option maxRecDepth 100000 in
theorem ml_17 : MPr [7, 3, 2, 1003, 1, 0, 0] := ⟨"OneAtATime$Search", rfl, (gw (List.mem_append_right _ (List.mem_append_left _ (List.mem_of_getElem? (l := tables_1_1) (i := 187) rfl))) rfl), (gw (List.mem_append_right _ (List.mem_append_left _ (List.mem_of_getElem? (l := tables_1_1) (i := 27) rfl))) rfl), (gw (List.mem_append_right _ (List.mem_append_left _ (List.mem_of_getElem? (l := tables_1_1) (i := 28) rfl))) rfl)⟩
set_option maxRecDepth 100000 in
theorem ml_18 : MPr [8, 3, 2, 1003, 1, 0, 0] := ⟨"OneAtATime$Likeness", rfl, (gw (List.mem_append_right _ (List.mem_append_left _ (List.mem_of_getElem? (l := tables_1_1) (i := 203) rfl))) rfl), (gw (List.mem_append_right _ (List.mem_append_left _ (List.mem_of_getElem? (l := tables_1_1) (i := 27) rfl))) rfl), (gw (List.mem_append_right _ (List.mem_append_left _ (List.mem_of_getElem? (l := tables_1_1) (i := 28) rfl))) rfl)⟩
set_option maxRecDepth 100000 in
theorem ml_19 : MPr [9, 3, 2, 1003, 1, 0, 0] := ⟨"OneAtATime$Evenness", rfl, (gw (List.mem_append_right _ (List.mem_append_left _ (List.mem_of_getElem? (l := tables_1_1) (i := 216) rfl))) rfl), (gw (List.mem_append_right _ (List.mem_append_left _ (List.mem_of_getElem? (l := tables_1_1) (i := 27) rfl))) rfl), (gw (List.mem_append_right _ (List.mem_append_left _ (List.mem_of_getElem? (l := tables_1_1) (i := 28) rfl))) rfl)⟩
set_option maxRecDepth 100000 in
theorem mf_11 : MFr pm_11 1 := ⟨(gw (List.mem_append_right _ (List.mem_append_right _ (List.mem_append_left _ (List.mem_of_getElem? (l := tables_1_2) (i := 30) rfl)))) rfl), ini_4, by decide +kernel, by decide +kernel⟩
set_option maxRecDepth 100000 in
theorem mi_11 : Jvm.Cond.instanceMethod pm_11.2.1 ∈ gtb ∧ Jvm.Cond.selects pm_11.2.1.cls pm_11.2.1 pm_11.2.1 ∈ gtb := ⟨(gw (List.mem_append_right _ (List.mem_append_right _ (List.mem_append_left _ (List.mem_of_getElem? (l := tables_1_2) (i := 28) rfl)))) rfl), (gw (List.mem_append_right _ (List.mem_append_right _ (List.mem_append_left _ (List.mem_of_getElem? (l := tables_1_2) (i := 29) rfl)))) rfl)⟩
set_option maxRecDepth 100000 in
theorem ml_20 : MPr [0, 74, 1, 11, 2, 1, 1] := ⟨"OneAtATime", pm_11, ("OneAtATime$Bytes", kT1, 2), rfl, rfl, rfl, rfl, (gw (List.mem_append_right _ (List.mem_append_right _ (List.mem_append_left _ (List.mem_of_getElem? (l := tables_1_2) (i := 27) rfl)))) rfl), mi_11, mf_11, rfl, Nat.le_of_ble_eq_true rfl⟩
set_option maxRecDepth 100000 in
theorem mf_12 : MFr pm_12 1 := ⟨(gw (List.mem_append_right _ (List.mem_append_right _ (List.mem_append_left _ (List.mem_of_getElem? (l := tables_1_2) (i := 34) rfl)))) rfl), ini_4, by decide +kernel, by decide +kernel⟩
set_option maxRecDepth 100000 in
theorem mi_12 : Jvm.Cond.instanceMethod pm_12.2.1 ∈ gtb ∧ Jvm.Cond.selects pm_12.2.1.cls pm_12.2.1 pm_12.2.1 ∈ gtb := ⟨(gw (List.mem_append_right _ (List.mem_append_right _ (List.mem_append_left _ (List.mem_of_getElem? (l := tables_1_2) (i := 32) rfl)))) rfl), (gw (List.mem_append_right _ (List.mem_append_right _ (List.mem_append_left _ (List.mem_of_getElem? (l := tables_1_2) (i := 33) rfl)))) rfl)⟩
set_option maxRecDepth 100000 in
theorem ml_21 : MPr [0, 78, 1, 12, 2, 0, 1] := ⟨"OneAtATime", pm_12, ("OneAtATime$Bytes", kT1, 2), rfl, rfl, rfl, rfl, (gw (List.mem_append_right _ (List.mem_append_right _ (List.mem_append_left _ (List.mem_of_getElem? (l := tables_1_2) (i := 31) rfl)))) rfl), mi_12, mf_12, rfl, Nat.le_of_ble_eq_true rfl⟩
set_option maxRecDepth 100000 in
theorem mf_13 : MFr pm_13 1 := ⟨(gw (List.mem_append_right _ (List.mem_append_right _ (List.mem_append_left _ (List.mem_of_getElem? (l := tables_1_2) (i := 38) rfl)))) rfl), ini_4, by decide +kernel, by decide +kernel⟩
set_option maxRecDepth 100000 in
theorem mi_13 : Jvm.Cond.instanceMethod pm_13.2.1 ∈ gtb ∧ Jvm.Cond.selects pm_13.2.1.cls pm_13.2.1 pm_13.2.1 ∈ gtb := ⟨(gw (List.mem_append_right _ (List.mem_append_right _ (List.mem_append_left _ (List.mem_of_getElem? (l := tables_1_2) (i := 36) rfl)))) rfl), (gw (List.mem_append_right _ (List.mem_append_right _ (List.mem_append_left _ (List.mem_of_getElem? (l := tables_1_2) (i := 37) rfl)))) rfl)⟩
set_option maxRecDepth 100000 in
theorem ml_22 : MPr [4, 25, 1, 13, 2, 0, 1] := ⟨"OneAtATime$Bytes", pm_13, ("OneAtATime$Bytes", kT1, 2), rfl, rfl, rfl, rfl, (gw (List.mem_append_right _ (List.mem_append_right _ (List.mem_append_left _ (List.mem_of_getElem? (l := tables_1_2) (i := 35) rfl)))) rfl), mi_13, mf_13, rfl, Nat.le_of_ble_eq_true rfl⟩
set_option maxRecDepth 100000 in
theorem mf_16 : MFr pm_16 1 := ⟨(gw (List.mem_append_right _ (List.mem_append_right _ (List.mem_append_left _ (List.mem_of_getElem? (l := tables_1_2) (i := 49) rfl)))) rfl), ini_0, by decide +kernel, by decide +kernel⟩
set_option maxRecDepth 100000 in
theorem mi_16 : Jvm.Cond.static pm_16.2.1 ∈ gtb := (gw (List.mem_append_right _ (List.mem_append_right _ (List.mem_append_left _ (List.mem_of_getElem? (l := tables_1_2) (i := 48) rfl)))) rfl)
set_option maxRecDepth 100000 in
theorem ml_23 : MPr [0, 85, 0, 16, 1, 1, 0] := ⟨"OneAtATime", pm_16, rfl, rfl, (gw (List.mem_append_right _ (List.mem_append_right _ (List.mem_append_left _ (List.mem_of_getElem? (l := tables_1_2) (i := 47) rfl)))) rfl), mi_16, mf_16, rfl, Nat.le_of_ble_eq_true rfl⟩
set_option maxRecDepth 100000 in
theorem mf_17 : MFr pm_17 1 := ⟨(gw (List.mem_append_right _ (List.mem_append_right _ (List.mem_append_left _ (List.mem_of_getElem? (l := tables_1_2) (i := 53) rfl)))) rfl), ini_3, by decide +kernel, by decide +kernel⟩
set_option maxRecDepth 100000 in
theorem mi_17 : Jvm.Cond.instanceMethod pm_17.2.1 ∈ gtb ∧ Jvm.Cond.selects pm_17.2.1.cls pm_17.2.1 pm_17.2.1 ∈ gtb := ⟨(gw (List.mem_append_right _ (List.mem_append_right _ (List.mem_append_left _ (List.mem_of_getElem? (l := tables_1_2) (i := 51) rfl)))) rfl), (gw (List.mem_append_right _ (List.mem_append_right _ (List.mem_append_left _ (List.mem_of_getElem? (l := tables_1_2) (i := 52) rfl)))) rfl)⟩
set_option maxRecDepth 100000 in
theorem ml_24 : MPr [0, 88, 1, 17, 2, 1, 5] := ⟨"OneAtATime", pm_17, ("OneAtATime$Reader", kT5, 6), rfl, rfl, rfl, rfl, (gw (List.mem_append_right _ (List.mem_append_right _ (List.mem_append_left _ (List.mem_of_getElem? (l := tables_1_2) (i := 50) rfl)))) rfl), mi_17, mf_17, rfl, Nat.le_of_ble_eq_true rfl⟩
set_option maxRecDepth 100000 in
theorem mf_32 : MFr pm_32 1 := ⟨(gw (List.mem_append_right _ (List.mem_append_right _ (List.mem_append_left _ (List.mem_of_getElem? (l := tables_1_2) (i := 164) rfl)))) rfl), ini_0, by decide +kernel, by decide +kernel⟩
set_option maxRecDepth 100000 in
theorem mi_32 : Jvm.Cond.instanceMethod pm_32.2.1 ∈ gtb ∧ Jvm.Cond.selects pm_32.2.1.cls pm_32.2.1 pm_32.2.1 ∈ gtb := ⟨(gw (List.mem_append_right _ (List.mem_append_right _ (List.mem_append_left _ (List.mem_of_getElem? (l := tables_1_2) (i := 163) rfl)))) rfl), (gw (List.mem_append_left _ (List.mem_of_getElem? (i := 8) rfl)) rfl)⟩
set_option maxRecDepth 100000 in
theorem ml_25 : MPr [0, 92, 1, 32, 2, 1, 8] := ⟨"OneAtATime", pm_32, ("OneAtATime", kT8, 9), rfl, rfl, rfl, rfl, (gw (List.mem_append_right _ (List.mem_append_right _ (List.mem_append_left _ (List.mem_of_getElem? (l := tables_1_2) (i := 161) rfl)))) rfl), mi_32, mf_32, rfl, Nat.le_of_ble_eq_true rfl⟩
set_option maxRecDepth 100000 in
theorem mf_18 : MFr pm_18 0 := ⟨(gw (List.mem_append_right _ (List.mem_append_right _ (List.mem_append_left _ (List.mem_of_getElem? (l := tables_1_2) (i := 57) rfl)))) rfl), ini_3, by decide +kernel, by decide +kernel⟩
set_option maxRecDepth 100000 in
theorem mi_18 : Jvm.Cond.instanceMethod pm_18.2.1 ∈ gtb ∧ Jvm.Cond.selects pm_18.2.1.cls pm_18.2.1 pm_18.2.1 ∈ gtb := ⟨(gw (List.mem_append_right _ (List.mem_append_right _ (List.mem_append_left _ (List.mem_of_getElem? (l := tables_1_2) (i := 56) rfl)))) rfl), (gw (List.mem_append_left _ (List.mem_of_getElem? (i := 0) rfl)) rfl)⟩
set_option maxRecDepth 100000 in
theorem ml_26 : MPr [3, 30, 1, 18, 1, 0, 5] := ⟨"OneAtATime$Reader", pm_18, ("OneAtATime$Reader", kT5, 6), rfl, rfl, rfl, rfl, (gw (List.mem_append_right _ (List.mem_append_right _ (List.mem_append_left _ (List.mem_of_getElem? (l := tables_1_2) (i := 54) rfl)))) rfl), mi_18, mf_18, rfl, Nat.le_of_ble_eq_true rfl⟩
set_option maxRecDepth 100000 in
theorem mf_22 : MFr pm_22 1 := ⟨(gw (List.mem_append_right _ (List.mem_append_right _ (List.mem_append_left _ (List.mem_of_getElem? (l := tables_1_2) (i := 71) rfl)))) rfl), ini_3, by decide +kernel, by decide +kernel⟩
set_option maxRecDepth 100000 in
theorem mi_22 : Jvm.Cond.instanceMethod pm_22.2.1 ∈ gtb ∧ Jvm.Cond.selects pm_22.2.1.cls pm_22.2.1 pm_22.2.1 ∈ gtb := ⟨(gw (List.mem_append_right _ (List.mem_append_right _ (List.mem_append_left _ (List.mem_of_getElem? (l := tables_1_2) (i := 70) rfl)))) rfl), (gw (List.mem_append_left _ (List.mem_of_getElem? (i := 1) rfl)) rfl)⟩
set_option maxRecDepth 100000 in
theorem ml_27 : MPr [3, 33, 1, 22, 2, 0, 5] := ⟨"OneAtATime$Reader", pm_22, ("OneAtATime$Reader", kT5, 6), rfl, rfl, rfl, rfl, (gw (List.mem_append_right _ (List.mem_append_right _ (List.mem_append_left _ (List.mem_of_getElem? (l := tables_1_2) (i := 68) rfl)))) rfl), mi_22, mf_22, rfl, Nat.le_of_ble_eq_true rfl⟩
set_option maxRecDepth 100000 in
theorem mf_29 : MFr pm_29 1 := ⟨(gw (List.mem_append_right _ (List.mem_append_right _ (List.mem_append_left _ (List.mem_of_getElem? (l := tables_1_2) (i := 151) rfl)))) rfl), ini_3, by decide +kernel, by decide +kernel⟩
set_option maxRecDepth 100000 in
theorem mi_29 : Jvm.Cond.instanceMethod pm_29.2.1 ∈ gtb ∧ Jvm.Cond.selects pm_29.2.1.cls pm_29.2.1 pm_29.2.1 ∈ gtb := ⟨(gw (List.mem_append_right _ (List.mem_append_right _ (List.mem_append_left _ (List.mem_of_getElem? (l := tables_1_2) (i := 150) rfl)))) rfl), (gw (List.mem_append_left _ (List.mem_of_getElem? (i := 7) rfl)) rfl)⟩
set_option maxRecDepth 100000 in
theorem ml_28 : MPr [3, 37, 1, 29, 2, 0, 5] := ⟨"OneAtATime$Reader", pm_29, ("OneAtATime$Reader", kT5, 6), rfl, rfl, rfl, rfl, (gw (List.mem_append_right _ (List.mem_append_right _ (List.mem_append_left _ (List.mem_of_getElem? (l := tables_1_2) (i := 148) rfl)))) rfl), mi_29, mf_29, rfl, Nat.le_of_ble_eq_true rfl⟩
set_option maxRecDepth 100000 in
theorem mf_27 : MFr pm_27 1 := ⟨(gw (List.mem_append_right _ (List.mem_append_right _ (List.mem_append_left _ (List.mem_of_getElem? (l := tables_1_2) (i := 143) rfl)))) rfl), ini_3, by decide +kernel, by decide +kernel⟩
set_option maxRecDepth 100000 in
theorem mi_27 : Jvm.Cond.instanceMethod pm_27.2.1 ∈ gtb ∧ Jvm.Cond.selects pm_27.2.1.cls pm_27.2.1 pm_27.2.1 ∈ gtb := ⟨(gw (List.mem_append_right _ (List.mem_append_right _ (List.mem_append_left _ (List.mem_of_getElem? (l := tables_1_2) (i := 142) rfl)))) rfl), (gw (List.mem_append_left _ (List.mem_of_getElem? (i := 6) rfl)) rfl)⟩
set_option maxRecDepth 100000 in
theorem ml_29 : MPr [3, 40, 1, 27, 2, 0, 5] := ⟨"OneAtATime$Reader", pm_27, ("OneAtATime$Reader", kT5, 6), rfl, rfl, rfl, rfl, (gw (List.mem_append_right _ (List.mem_append_right _ (List.mem_append_left _ (List.mem_of_getElem? (l := tables_1_2) (i := 140) rfl)))) rfl), mi_27, mf_27, rfl, Nat.le_of_ble_eq_true rfl⟩
set_option maxRecDepth 100000 in
theorem mf_25 : MFr pm_25 2 := ⟨(gw (List.mem_append_right _ (List.mem_append_right _ (List.mem_append_left _ (List.mem_of_getElem? (l := tables_1_2) (i := 132) rfl)))) rfl), ini_3, by decide +kernel, by decide +kernel⟩
set_option maxRecDepth 100000 in
theorem mi_25 : Jvm.Cond.instanceMethod pm_25.2.1 ∈ gtb ∧ Jvm.Cond.selects pm_25.2.1.cls pm_25.2.1 pm_25.2.1 ∈ gtb := ⟨(gw (List.mem_append_right _ (List.mem_append_right _ (List.mem_append_left _ (List.mem_of_getElem? (l := tables_1_2) (i := 131) rfl)))) rfl), (gw (List.mem_append_left _ (List.mem_of_getElem? (i := 4) rfl)) rfl)⟩
set_option maxRecDepth 100000 in
theorem ml_30 : MPr [3, 50, 1, 25, 3, 0, 5] := ⟨"OneAtATime$Reader", pm_25, ("OneAtATime$Reader", kT5, 6), rfl, rfl, rfl, rfl, (gw (List.mem_append_right _ (List.mem_append_right _ (List.mem_append_left _ (List.mem_of_getElem? (l := tables_1_2) (i := 129) rfl)))) rfl), mi_25, mf_25, rfl, Nat.le_of_ble_eq_true rfl⟩
set_option maxRecDepth 100000 in
theorem mf_19 : MFr pm_19 1 := ⟨(gw (List.mem_append_right _ (List.mem_append_right _ (List.mem_append_left _ (List.mem_of_getElem? (l := tables_1_2) (i := 61) rfl)))) rfl), ini_4, by decide +kernel, by decide +kernel⟩
set_option maxRecDepth 100000 in
theorem mi_19 : Jvm.Cond.instanceMethod pm_19.2.1 ∈ gtb ∧ Jvm.Cond.selects pm_19.2.1.cls pm_19.2.1 pm_19.2.1 ∈ gtb := ⟨(gw (List.mem_append_right _ (List.mem_append_right _ (List.mem_append_left _ (List.mem_of_getElem? (l := tables_1_2) (i := 59) rfl)))) rfl), (gw (List.mem_append_right _ (List.mem_append_right _ (List.mem_append_left _ (List.mem_of_getElem? (l := tables_1_2) (i := 60) rfl)))) rfl)⟩
set_option maxRecDepth 100000 in
theorem ml_31 : MPr [3, 79, 1, 19, 2, 1, 1] := ⟨"OneAtATime$Reader", pm_19, ("OneAtATime$Bytes", kT1, 2), rfl, rfl, rfl, rfl, (gw (List.mem_append_right _ (List.mem_append_right _ (List.mem_append_left _ (List.mem_of_getElem? (l := tables_1_2) (i := 58) rfl)))) rfl), mi_19, mf_19, rfl, Nat.le_of_ble_eq_true rfl⟩
set_option maxRecDepth 100000 in
theorem mf_20 : MFr pm_20 1 := ⟨(gw (List.mem_append_right _ (List.mem_append_right _ (List.mem_append_left _ (List.mem_of_getElem? (l := tables_1_2) (i := 64) rfl)))) rfl), ini_3, by decide +kernel, by decide +kernel⟩
set_option maxRecDepth 100000 in
theorem mi_20 : Jvm.Cond.static pm_20.2.1 ∈ gtb := (gw (List.mem_append_right _ (List.mem_append_right _ (List.mem_append_left _ (List.mem_of_getElem? (l := tables_1_2) (i := 63) rfl)))) rfl)
set_option maxRecDepth 100000 in
theorem ml_32 : MPr [3, 105, 0, 20, 1, 1, 0] := ⟨"OneAtATime$Reader", pm_20, rfl, rfl, (gw (List.mem_append_right _ (List.mem_append_right _ (List.mem_append_left _ (List.mem_of_getElem? (l := tables_1_2) (i := 62) rfl)))) rfl), mi_20, mf_20, rfl, Nat.le_of_ble_eq_true rfl⟩
set_option maxRecDepth 100000 in
theorem mf_21 : MFr pm_21 1 := ⟨(gw (List.mem_append_right _ (List.mem_append_right _ (List.mem_append_left _ (List.mem_of_getElem? (l := tables_1_2) (i := 67) rfl)))) rfl), ini_3, by decide +kernel, by decide +kernel⟩
set_option maxRecDepth 100000 in
theorem mi_21 : Jvm.Cond.static pm_21.2.1 ∈ gtb := (gw (List.mem_append_right _ (List.mem_append_right _ (List.mem_append_left _ (List.mem_of_getElem? (l := tables_1_2) (i := 66) rfl)))) rfl)
set_option maxRecDepth 100000 in
theorem ml_33 : MPr [3, 108, 0, 21, 1, 1, 0] := ⟨"OneAtATime$Reader", pm_21, rfl, rfl, (gw (List.mem_append_right _ (List.mem_append_right _ (List.mem_append_left _ (List.mem_of_getElem? (l := tables_1_2) (i := 65) rfl)))) rfl), mi_21, mf_21, rfl, Nat.le_of_ble_eq_true rfl⟩
set_option maxRecDepth 100000 in
theorem mf_23 : MFr pm_23 1 := ⟨(gw (List.mem_append_right _ (List.mem_append_right _ (List.mem_append_left _ (List.mem_of_getElem? (l := tables_1_2) (i := 76) rfl)))) rfl), ini_3, by decide +kernel, by decide +kernel⟩
set_option maxRecDepth 100000 in
theorem mi_23 : Jvm.Cond.instanceMethod pm_23.2.1 ∈ gtb ∧ Jvm.Cond.selects pm_23.2.1.cls pm_23.2.1 pm_23.2.1 ∈ gtb := ⟨(gw (List.mem_append_right _ (List.mem_append_right _ (List.mem_append_left _ (List.mem_of_getElem? (l := tables_1_2) (i := 75) rfl)))) rfl), (gw (List.mem_append_left _ (List.mem_of_getElem? (i := 2) rfl)) rfl)⟩
set_option maxRecDepth 100000 in
theorem ml_34 : MPr [3, 56, 1, 23, 2, 0, 5] := ⟨"OneAtATime$Reader", pm_23, ("OneAtATime$Reader", kT5, 6), rfl, rfl, rfl, rfl, (gw (List.mem_append_right _ (List.mem_append_right _ (List.mem_append_left _ (List.mem_of_getElem? (l := tables_1_2) (i := 73) rfl)))) rfl), mi_23, mf_23, rfl, Nat.le_of_ble_eq_true rfl⟩
set_option maxRecDepth 100000 in
theorem mf_26 : MFr pm_26 2 := ⟨(gw (List.mem_append_right _ (List.mem_append_right _ (List.mem_append_left _ (List.mem_of_getElem? (l := tables_1_2) (i := 136) rfl)))) rfl), ini_3, by decide +kernel, by decide +kernel⟩
set_option maxRecDepth 100000 in
theorem mi_26 : Jvm.Cond.instanceMethod pm_26.2.1 ∈ gtb ∧ Jvm.Cond.selects pm_26.2.1.cls pm_26.2.1 pm_26.2.1 ∈ gtb := ⟨(gw (List.mem_append_right _ (List.mem_append_right _ (List.mem_append_left _ (List.mem_of_getElem? (l := tables_1_2) (i := 135) rfl)))) rfl), (gw (List.mem_append_left _ (List.mem_of_getElem? (i := 5) rfl)) rfl)⟩
set_option maxRecDepth 100000 in
theorem ml_35 : MPr [3, 60, 1, 26, 3, 1, 5] := ⟨"OneAtATime$Reader", pm_26, ("OneAtATime$Reader", kT5, 6), rfl, rfl, rfl, rfl, (gw (List.mem_append_right _ (List.mem_append_right _ (List.mem_append_left _ (List.mem_of_getElem? (l := tables_1_2) (i := 133) rfl)))) rfl), mi_26, mf_26, rfl, Nat.le_of_ble_eq_true rfl⟩
set_option maxRecDepth 100000 in
theorem mf_24 : MFr pm_24 1 := ⟨(gw (List.mem_append_right _ (List.mem_append_right _ (List.mem_append_left _ (List.mem_of_getElem? (l := tables_1_2) (i := 80) rfl)))) rfl), ini_3, by decide +kernel, by decide +kernel⟩
set_option maxRecDepth 100000 in
theorem mi_24 : Jvm.Cond.instanceMethod pm_24.2.1 ∈ gtb ∧ Jvm.Cond.selects pm_24.2.1.cls pm_24.2.1 pm_24.2.1 ∈ gtb := ⟨(gw (List.mem_append_right _ (List.mem_append_right _ (List.mem_append_left _ (List.mem_of_getElem? (l := tables_1_2) (i := 79) rfl)))) rfl), (gw (List.mem_append_left _ (List.mem_of_getElem? (i := 3) rfl)) rfl)⟩
set_option maxRecDepth 100000 in
theorem ml_36 : MPr [3, 66, 1, 24, 2, 1, 5] := ⟨"OneAtATime$Reader", pm_24, ("OneAtATime$Reader", kT5, 6), rfl, rfl, rfl, rfl, (gw (List.mem_append_right _ (List.mem_append_right _ (List.mem_append_left _ (List.mem_of_getElem? (l := tables_1_2) (i := 77) rfl)))) rfl), mi_24, mf_24, rfl, Nat.le_of_ble_eq_true rfl⟩
set_option maxRecDepth 100000 in
theorem mf_28 : MFr pm_28 4 := ⟨(gw (List.mem_append_right _ (List.mem_append_right _ (List.mem_append_left _ (List.mem_of_getElem? (l := tables_1_2) (i := 147) rfl)))) rfl), ini_1, by decide +kernel, by decide +kernel⟩
set_option maxRecDepth 100000 in
theorem mi_28 : Jvm.Cond.instanceMethod pm_28.2.1 ∈ gtb ∧ Jvm.Cond.selects pm_28.2.1.cls pm_28.2.1 pm_28.2.1 ∈ gtb := ⟨(gw (List.mem_append_right _ (List.mem_append_right _ (List.mem_append_left _ (List.mem_of_getElem? (l := tables_1_2) (i := 145) rfl)))) rfl), (gw (List.mem_append_right _ (List.mem_append_right _ (List.mem_append_left _ (List.mem_of_getElem? (l := tables_1_2) (i := 146) rfl)))) rfl)⟩
set_option maxRecDepth 100000 in
theorem ml_37 : MPr [3, 73, 1, 28, 5, 0, 0] := ⟨"OneAtATime$Reader", pm_28, ("OneAtATime$BitList", kT0, 7), rfl, rfl, rfl, rfl, (gw (List.mem_append_right _ (List.mem_append_right _ (List.mem_append_left _ (List.mem_of_getElem? (l := tables_1_2) (i := 144) rfl)))) rfl), mi_28, mf_28, rfl, Nat.le_of_ble_eq_true rfl⟩
set_option maxRecDepth 100000 in
theorem ml_38 : MPr [3, 93, 1, 1000, 1, 1, 30] := ⟨"OneAtATime$Reader", rfl, (gw (List.mem_append_right _ (List.mem_append_right _ (List.mem_append_left _ (List.mem_of_getElem? (l := tables_1_2) (i := 81) rfl)))) rfl)⟩
set_option maxRecDepth 100000 in
theorem ml_39 : MPr [3, 99, 1, 1001, 2, 1, 30] := ⟨"OneAtATime$Reader", rfl, (gw (List.mem_append_right _ (List.mem_append_right _ (List.mem_append_left _ (List.mem_of_getElem? (l := tables_1_2) (i := 91) rfl)))) rfl)⟩
set_option maxRecDepth 100000 in
theorem mf_30 : MFr pm_30 1 := ⟨(gw (List.mem_append_right _ (List.mem_append_right _ (List.mem_append_left _ (List.mem_of_getElem? (l := tables_1_2) (i := 155) rfl)))) rfl), ini_1, by decide +kernel, by decide +kernel⟩
set_option maxRecDepth 100000 in
theorem mi_30 : Jvm.Cond.instanceMethod pm_30.2.1 ∈ gtb ∧ Jvm.Cond.selects pm_30.2.1.cls pm_30.2.1 pm_30.2.1 ∈ gtb := ⟨(gw (List.mem_append_right _ (List.mem_append_right _ (List.mem_append_left _ (List.mem_of_getElem? (l := tables_1_2) (i := 153) rfl)))) rfl), (gw (List.mem_append_right _ (List.mem_append_right _ (List.mem_append_left _ (List.mem_of_getElem? (l := tables_1_2) (i := 154) rfl)))) rfl)⟩
set_option maxRecDepth 100000 in
theorem ml_40 : MPr [3, 83, 1, 30, 2, 1, 0] := ⟨"OneAtATime$Reader", pm_30, ("OneAtATime$BitList", kT0, 7), rfl, rfl, rfl, rfl, (gw (List.mem_append_right _ (List.mem_append_right _ (List.mem_append_left _ (List.mem_of_getElem? (l := tables_1_2) (i := 152) rfl)))) rfl), mi_30, mf_30, rfl, Nat.le_of_ble_eq_true rfl⟩
set_option maxRecDepth 100000 in
theorem mf_31 : MFr pm_31 1 := ⟨(gw (List.mem_append_right _ (List.mem_append_right _ (List.mem_append_left _ (List.mem_of_getElem? (l := tables_1_2) (i := 159) rfl)))) rfl), ini_1, by decide +kernel, by decide +kernel⟩
set_option maxRecDepth 100000 in
theorem mi_31 : Jvm.Cond.instanceMethod pm_31.2.1 ∈ gtb ∧ Jvm.Cond.selects pm_31.2.1.cls pm_31.2.1 pm_31.2.1 ∈ gtb := ⟨(gw (List.mem_append_right _ (List.mem_append_right _ (List.mem_append_left _ (List.mem_of_getElem? (l := tables_1_2) (i := 157) rfl)))) rfl), (gw (List.mem_append_right _ (List.mem_append_right _ (List.mem_append_left _ (List.mem_of_getElem? (l := tables_1_2) (i := 158) rfl)))) rfl)⟩
set_option maxRecDepth 100000 in
theorem ml_41 : MPr [3, 90, 1, 31, 2, 0, 0] := ⟨"OneAtATime$Reader", pm_31, ("OneAtATime$BitList", kT0, 7), rfl, rfl, rfl, rfl, (gw (List.mem_append_right _ (List.mem_append_right _ (List.mem_append_left _ (List.mem_of_getElem? (l := tables_1_2) (i := 156) rfl)))) rfl), mi_31, mf_31, rfl, Nat.le_of_ble_eq_true rfl⟩
set_option maxRecDepth 100000 in
theorem ml_42 : MPr [1, 39, 1, 30, 2, 1, 0] := ⟨"OneAtATime$BitList", pm_30, ("OneAtATime$BitList", kT0, 7), rfl, rfl, rfl, rfl, (gw (List.mem_append_right _ (List.mem_append_right _ (List.mem_append_left _ (List.mem_of_getElem? (l := tables_1_2) (i := 160) rfl)))) rfl), mi_30, mf_30, rfl, Nat.le_of_ble_eq_true rfl⟩
set_option maxRecDepth 100000 in
theorem mf_33 : MFr pm_33 1 := ⟨(gw (List.mem_append_right _ (List.mem_append_right _ (List.mem_append_left _ (List.mem_of_getElem? (l := tables_1_2) (i := 168) rfl)))) rfl), ini_1, by decide +kernel, by decide +kernel⟩
set_option maxRecDepth 100000 in
theorem mi_33 : Jvm.Cond.instanceMethod pm_33.2.1 ∈ gtb ∧ Jvm.Cond.selects pm_33.2.1.cls pm_33.2.1 pm_33.2.1 ∈ gtb := ⟨(gw (List.mem_append_right _ (List.mem_append_right _ (List.mem_append_left _ (List.mem_of_getElem? (l := tables_1_2) (i := 166) rfl)))) rfl), (gw (List.mem_append_right _ (List.mem_append_right _ (List.mem_append_left _ (List.mem_of_getElem? (l := tables_1_2) (i := 167) rfl)))) rfl)⟩
set_option maxRecDepth 100000 in
theorem ml_43 : MPr [0, 366, 1, 33, 2, 1, 0] := ⟨"OneAtATime", pm_33, ("OneAtATime$BitList", kT0, 7), rfl, rfl, rfl, rfl, (gw (List.mem_append_right _ (List.mem_append_right _ (List.mem_append_left _ (List.mem_of_getElem? (l := tables_1_2) (i := 165) rfl)))) rfl), mi_33, mf_33, rfl, Nat.le_of_ble_eq_true rfl⟩
set_option maxRecDepth 100000 in
theorem mf_34 : MFr pm_34 2 := ⟨(gw (List.mem_append_right _ (List.mem_append_right _ (List.mem_append_left _ (List.mem_of_getElem? (l := tables_1_2) (i := 172) rfl)))) rfl), ini_2, by decide +kernel, by decide +kernel⟩
set_option maxRecDepth 100000 in
theorem mi_34 : Jvm.Cond.instanceMethod pm_34.2.1 ∈ gtb ∧ Jvm.Cond.selects pm_34.2.1.cls pm_34.2.1 pm_34.2.1 ∈ gtb := ⟨(gw (List.mem_append_right _ (List.mem_append_right _ (List.mem_append_left _ (List.mem_of_getElem? (l := tables_1_2) (i := 170) rfl)))) rfl), (gw (List.mem_append_right _ (List.mem_append_right _ (List.mem_append_left _ (List.mem_of_getElem? (l := tables_1_2) (i := 171) rfl)))) rfl)⟩
set_option maxRecDepth 100000 in
theorem ml_44 : MPr [0, 347, 1, 34, 3, 0, 3] := ⟨"OneAtATime", pm_34, ("OneAtATime$History", kT3, 4), rfl, rfl, rfl, rfl, (gw (List.mem_append_right _ (List.mem_append_right _ (List.mem_append_left _ (List.mem_of_getElem? (l := tables_1_2) (i := 169) rfl)))) rfl), mi_34, mf_34, rfl, Nat.le_of_ble_eq_true rfl⟩
set_option maxRecDepth 100000 in
theorem mf_35 : MFr pm_35 1 := ⟨(gw (List.mem_append_right _ (List.mem_append_right _ (List.mem_append_left _ (List.mem_of_getElem? (l := tables_1_2) (i := 176) rfl)))) rfl), ini_1, by decide +kernel, by decide +kernel⟩
set_option maxRecDepth 100000 in
theorem mi_35 : Jvm.Cond.instanceMethod pm_35.2.1 ∈ gtb ∧ Jvm.Cond.selects pm_35.2.1.cls pm_35.2.1 pm_35.2.1 ∈ gtb := ⟨(gw (List.mem_append_right _ (List.mem_append_right _ (List.mem_append_left _ (List.mem_of_getElem? (l := tables_1_2) (i := 174) rfl)))) rfl), (gw (List.mem_append_right _ (List.mem_append_right _ (List.mem_append_left _ (List.mem_of_getElem? (l := tables_1_2) (i := 175) rfl)))) rfl)⟩
set_option maxRecDepth 100000 in
theorem ml_45 : MPr [0, 333, 1, 35, 2, 0, 0] := ⟨"OneAtATime", pm_35, ("OneAtATime$BitList", kT0, 7), rfl, rfl, rfl, rfl, (gw (List.mem_append_right _ (List.mem_append_right _ (List.mem_append_left _ (List.mem_of_getElem? (l := tables_1_2) (i := 183) rfl)))) rfl), mi_35, mf_35, rfl, Nat.le_of_ble_eq_true rfl⟩
set_option maxRecDepth 100000 in
theorem ml_46 : MPr [2, 29, 1, 35, 2, 0, 0] := ⟨"OneAtATime$History", pm_35, ("OneAtATime$BitList", kT0, 7), rfl, rfl, rfl, rfl, (gw (List.mem_append_right _ (List.mem_append_right _ (List.mem_append_left _ (List.mem_of_getElem? (l := tables_1_2) (i := 173) rfl)))) rfl), mi_35, mf_35, rfl, Nat.le_of_ble_eq_true rfl⟩
set_option maxRecDepth 100000 in
theorem ml_47 : MPr [2, 33, 0, 1005, 2, 1, 0] := ⟨"OneAtATime$History", rfl, (gw (List.mem_append_right _ (List.mem_append_right _ (List.mem_append_left _ (List.mem_of_getElem? (l := tables_1_2) (i := 180) rfl)))) rfl), mw_1005⟩
set_option maxRecDepth 100000 in
theorem ml_48 : MPr [1, 56, 0, 1002, 5, 0, 0] := ⟨"OneAtATime$BitList", rfl, (gw (List.mem_append_right _ (List.mem_append_right _ (List.mem_append_left _ (List.mem_of_getElem? (l := tables_1_2) (i := 177) rfl)))) rfl), (gw (List.mem_append_right _ (List.mem_append_right _ (List.mem_append_left _ (List.mem_of_getElem? (l := tables_1_2) (i := 179) rfl)))) rfl), (gw (List.mem_append_right _ (List.mem_append_right _ (List.mem_append_left _ (List.mem_of_getElem? (l := tables_1_2) (i := 178) rfl)))) rfl), ini_16⟩
set_option maxRecDepth 100000 in
theorem mf_39 : MFr pm_39 0 := ⟨(gw (List.mem_append_right _ (List.mem_append_right _ (List.mem_append_left _ (List.mem_of_getElem? (l := tables_1_2) (i := 195) rfl)))) rfl), ini_0, by decide +kernel, by decide +kernel⟩
set_option maxRecDepth 100000 in
theorem mi_39 : Jvm.Cond.instanceMethod pm_39.2.1 ∈ gtb ∧ Jvm.Cond.selects pm_39.2.1.cls pm_39.2.1 pm_39.2.1 ∈ gtb := ⟨(gw (List.mem_append_right _ (List.mem_append_right _ (List.mem_append_left _ (List.mem_of_getElem? (l := tables_1_2) (i := 194) rfl)))) rfl), (gw (List.mem_append_left _ (List.mem_of_getElem? (i := 9) rfl)) rfl)⟩
set_option maxRecDepth 100000 in
theorem ml_49 : MPr [0, 102, 1, 39, 1, 1, 8] := ⟨"OneAtATime", pm_39, ("OneAtATime", kT8, 9), rfl, rfl, rfl, rfl, (gw (List.mem_append_right _ (List.mem_append_right _ (List.mem_append_left _ (List.mem_of_getElem? (l := tables_1_2) (i := 192) rfl)))) rfl), mi_39, mf_39, rfl, Nat.le_of_ble_eq_true rfl⟩
set_option maxRecDepth 100000 in
theorem mf_41 : MFr pm_41 1 := ⟨(gw (List.mem_append_right _ (List.mem_append_right _ (List.mem_append_left _ (List.mem_of_getElem? (l := tables_1_2) (i := 203) rfl)))) rfl), ini_0, by decide +kernel, by decide +kernel⟩
set_option maxRecDepth 100000 in
theorem mi_41 : Jvm.Cond.instanceMethod pm_41.2.1 ∈ gtb ∧ Jvm.Cond.selects pm_41.2.1.cls pm_41.2.1 pm_41.2.1 ∈ gtb := ⟨(gw (List.mem_append_right _ (List.mem_append_right _ (List.mem_append_left _ (List.mem_of_getElem? (l := tables_1_2) (i := 202) rfl)))) rfl), (gw (List.mem_append_left _ (List.mem_of_getElem? (i := 10) rfl)) rfl)⟩
set_option maxRecDepth 100000 in
theorem ml_50 : MPr [0, 109, 1, 41, 2, 2, 8] := ⟨"OneAtATime", pm_41, ("OneAtATime", kT8, 9), rfl, rfl, rfl, rfl, (gw (List.mem_append_right _ (List.mem_append_right _ (List.mem_append_left _ (List.mem_of_getElem? (l := tables_1_2) (i := 200) rfl)))) rfl), mi_41, mf_41, rfl, Nat.le_of_ble_eq_true rfl⟩
set_option maxRecDepth 100000 in
theorem mf_42 : MFr pm_42 0 := ⟨(gw (List.mem_append_right _ (List.mem_append_right _ (List.mem_append_left _ (List.mem_of_getElem? (l := tables_1_2) (i := 207) rfl)))) rfl), ini_1, by decide +kernel, by decide +kernel⟩
set_option maxRecDepth 100000 in
theorem mi_42 : Jvm.Cond.instanceMethod pm_42.2.1 ∈ gtb ∧ Jvm.Cond.selects pm_42.2.1.cls pm_42.2.1 pm_42.2.1 ∈ gtb := ⟨(gw (List.mem_append_right _ (List.mem_append_right _ (List.mem_append_left _ (List.mem_of_getElem? (l := tables_1_2) (i := 205) rfl)))) rfl), (gw (List.mem_append_right _ (List.mem_append_right _ (List.mem_append_left _ (List.mem_of_getElem? (l := tables_1_2) (i := 206) rfl)))) rfl)⟩
set_option maxRecDepth 100000 in
theorem ml_51 : MPr [0, 129, 1, 42, 1, 1, 0] := ⟨"OneAtATime", pm_42, ("OneAtATime$BitList", kT0, 7), rfl, rfl, rfl, rfl, (gw (List.mem_append_right _ (List.mem_append_right _ (List.mem_append_left _ (List.mem_of_getElem? (l := tables_1_2) (i := 204) rfl)))) rfl), mi_42, mf_42, rfl, Nat.le_of_ble_eq_true rfl⟩
set_option maxRecDepth 100000 in
theorem mf_44 : MFr pm_44 1 := ⟨(gw (List.mem_append_right _ (List.mem_append_right _ (List.mem_append_left _ (List.mem_of_getElem? (l := tables_1_2) (i := 215) rfl)))) rfl), ini_6, by decide +kernel, by decide +kernel⟩
set_option maxRecDepth 100000 in
theorem mi_44 : Jvm.Cond.instanceMethod pm_44.2.1 ∈ gtb ∧ Jvm.Cond.selects pm_44.2.1.cls pm_44.2.1 pm_44.2.1 ∈ gtb := ⟨(gw (List.mem_append_right _ (List.mem_append_right _ (List.mem_append_left _ (List.mem_of_getElem? (l := tables_1_2) (i := 213) rfl)))) rfl), (gw (List.mem_append_right _ (List.mem_append_right _ (List.mem_append_left _ (List.mem_of_getElem? (l := tables_1_2) (i := 214) rfl)))) rfl)⟩
set_option maxRecDepth 100000 in
theorem ml_52 : MPr [0, 132, 1, 44, 2, 1, 7] := ⟨"OneAtATime", pm_44, ("OneAtATime$Survey", kT7, 5), rfl, rfl, rfl, rfl, (gw (List.mem_append_right _ (List.mem_append_right _ (List.mem_append_left _ (List.mem_of_getElem? (l := tables_1_2) (i := 212) rfl)))) rfl), mi_44, mf_44, rfl, Nat.le_of_ble_eq_true rfl⟩
set_option maxRecDepth 100000 in
theorem mf_48 : MFr pm_48 0 := ⟨(gw (List.mem_append_right _ (List.mem_append_right _ (List.mem_append_left _ (List.mem_of_getElem? (l := tables_1_2) (i := 231) rfl)))) rfl), ini_1, by decide +kernel, by decide +kernel⟩
set_option maxRecDepth 100000 in
theorem mi_48 : Jvm.Cond.instanceMethod pm_48.2.1 ∈ gtb ∧ Jvm.Cond.selects pm_48.2.1.cls pm_48.2.1 pm_48.2.1 ∈ gtb := ⟨(gw (List.mem_append_right _ (List.mem_append_right _ (List.mem_append_left _ (List.mem_of_getElem? (l := tables_1_2) (i := 229) rfl)))) rfl), (gw (List.mem_append_right _ (List.mem_append_right _ (List.mem_append_left _ (List.mem_of_getElem? (l := tables_1_2) (i := 230) rfl)))) rfl)⟩
set_option maxRecDepth 100000 in
theorem ml_53 : MPr [0, 136, 1, 48, 1, 1, 0] := ⟨"OneAtATime", pm_48, ("OneAtATime$BitList", kT0, 7), rfl, rfl, rfl, rfl, (gw (List.mem_append_right _ (List.mem_append_right _ (List.mem_append_left _ (List.mem_of_getElem? (l := tables_1_2) (i := 228) rfl)))) rfl), mi_48, mf_48, rfl, Nat.le_of_ble_eq_true rfl⟩
set_option maxRecDepth 100000 in
theorem mf_43 : MFr pm_43 0 := ⟨(gw (List.mem_append_right _ (List.mem_append_right _ (List.mem_append_left _ (List.mem_of_getElem? (l := tables_1_2) (i := 211) rfl)))) rfl), ini_1, by decide +kernel, by decide +kernel⟩
set_option maxRecDepth 100000 in
theorem mi_43 : Jvm.Cond.instanceMethod pm_43.2.1 ∈ gtb ∧ Jvm.Cond.selects pm_43.2.1.cls pm_43.2.1 pm_43.2.1 ∈ gtb := ⟨(gw (List.mem_append_right _ (List.mem_append_right _ (List.mem_append_left _ (List.mem_of_getElem? (l := tables_1_2) (i := 209) rfl)))) rfl), (gw (List.mem_append_right _ (List.mem_append_right _ (List.mem_append_left _ (List.mem_of_getElem? (l := tables_1_2) (i := 210) rfl)))) rfl)⟩
set_option maxRecDepth 100000 in
theorem ml_54 : MPr [1, 62, 1, 43, 1, 1, 0] := ⟨"OneAtATime$BitList", pm_43, ("OneAtATime$BitList", kT0, 7), rfl, rfl, rfl, rfl, (gw (List.mem_append_right _ (List.mem_append_right _ (List.mem_append_left _ (List.mem_of_getElem? (l := tables_1_2) (i := 208) rfl)))) rfl), mi_43, mf_43, rfl, Nat.le_of_ble_eq_true rfl⟩
set_option maxRecDepth 100000 in
theorem mf_45 : MFr pm_45 1 := ⟨(gw (List.mem_append_right _ (List.mem_append_right _ (List.mem_append_left _ (List.mem_of_getElem? (l := tables_1_2) (i := 219) rfl)))) rfl), ini_6, by decide +kernel, by decide +kernel⟩
set_option maxRecDepth 100000 in
theorem mi_45 : Jvm.Cond.instanceMethod pm_45.2.1 ∈ gtb ∧ Jvm.Cond.selects pm_45.2.1.cls pm_45.2.1 pm_45.2.1 ∈ gtb := ⟨(gw (List.mem_append_right _ (List.mem_append_right _ (List.mem_append_left _ (List.mem_of_getElem? (l := tables_1_2) (i := 218) rfl)))) rfl), (gw (List.mem_append_left _ (List.mem_of_getElem? (i := 11) rfl)) rfl)⟩
set_option maxRecDepth 100000 in
theorem ml_55 : MPr [6, 42, 1, 45, 2, 0, 7] := ⟨"OneAtATime$Survey", pm_45, ("OneAtATime$Survey", kT7, 5), rfl, rfl, rfl, rfl, (gw (List.mem_append_right _ (List.mem_append_right _ (List.mem_append_left _ (List.mem_of_getElem? (l := tables_1_2) (i := 216) rfl)))) rfl), mi_45, mf_45, rfl, Nat.le_of_ble_eq_true rfl⟩
set_option maxRecDepth 100000 in
theorem mf_47 : MFr pm_47 0 := ⟨(gw (List.mem_append_right _ (List.mem_append_right _ (List.mem_append_left _ (List.mem_of_getElem? (l := tables_1_2) (i := 227) rfl)))) rfl), ini_1, by decide +kernel, by decide +kernel⟩
set_option maxRecDepth 100000 in
theorem mi_47 : Jvm.Cond.instanceMethod pm_47.2.1 ∈ gtb ∧ Jvm.Cond.selects pm_47.2.1.cls pm_47.2.1 pm_47.2.1 ∈ gtb := ⟨(gw (List.mem_append_right _ (List.mem_append_right _ (List.mem_append_left _ (List.mem_of_getElem? (l := tables_1_2) (i := 225) rfl)))) rfl), (gw (List.mem_append_right _ (List.mem_append_right _ (List.mem_append_left _ (List.mem_of_getElem? (l := tables_1_2) (i := 226) rfl)))) rfl)⟩
set_option maxRecDepth 100000 in
theorem ml_56 : MPr [6, 46, 1, 47, 1, 1, 0] := ⟨"OneAtATime$Survey", pm_47, ("OneAtATime$BitList", kT0, 7), rfl, rfl, rfl, rfl, (gw (List.mem_append_right _ (List.mem_append_right _ (List.mem_append_left _ (List.mem_of_getElem? (l := tables_1_2) (i := 224) rfl)))) rfl), mi_47, mf_47, rfl, Nat.le_of_ble_eq_true rfl⟩
set_option maxRecDepth 100000 in
theorem mf_46 : MFr pm_46 2 := ⟨(gw (List.mem_append_right _ (List.mem_append_right _ (List.mem_append_left _ (List.mem_of_getElem? (l := tables_1_2) (i := 222) rfl)))) rfl), ini_10, by decide +kernel, by decide +kernel⟩
set_option maxRecDepth 100000 in
theorem mi_46 : Jvm.Cond.static pm_46.2.1 ∈ gtb := (gw (List.mem_append_right _ (List.mem_append_right _ (List.mem_append_left _ (List.mem_of_getElem? (l := tables_1_2) (i := 221) rfl)))) rfl)
set_option maxRecDepth 100000 in
theorem ml_57 : MPr [6, 27, 0, 46, 2, 0, 0] := ⟨"OneAtATime$Survey", pm_46, rfl, rfl, (gw (List.mem_append_right _ (List.mem_append_right _ (List.mem_append_left _ (List.mem_of_getElem? (l := tables_1_2) (i := 220) rfl)))) rfl), mi_46, mf_46, rfl, Nat.le_of_ble_eq_true rfl⟩
set_option maxRecDepth 100000 in
theorem ml_58 : MPr [6, 33, 1, 42, 1, 1, 0] := ⟨"OneAtATime$Survey", pm_42, ("OneAtATime$BitList", kT0, 7), rfl, rfl, rfl, rfl, (gw (List.mem_append_right _ (List.mem_append_right _ (List.mem_append_left _ (List.mem_of_getElem? (l := tables_1_2) (i := 223) rfl)))) rfl), mi_42, mf_42, rfl, Nat.le_of_ble_eq_true rfl⟩
set_option maxRecDepth 100000 in
theorem ml_59 : MPr [1, 66, 1, 47, 1, 1, 0] := ⟨"OneAtATime$BitList", pm_47, ("OneAtATime$BitList", kT0, 7), rfl, rfl, rfl, rfl, (gw (List.mem_append_right _ (List.mem_append_right _ (List.mem_append_left _ (List.mem_of_getElem? (l := tables_1_2) (i := 232) rfl)))) rfl), mi_47, mf_47, rfl, Nat.le_of_ble_eq_true rfl⟩
set_option maxRecDepth 100000 in
theorem mf_49 : MFr pm_49 1 := ⟨(gw (List.mem_append_right _ (List.mem_append_right _ (List.mem_append_left _ (List.mem_of_getElem? (l := tables_1_2) (i := 236) rfl)))) rfl), ini_1, by decide +kernel, by decide +kernel⟩
set_option maxRecDepth 100000 in
theorem mi_49 : Jvm.Cond.instanceMethod pm_49.2.1 ∈ gtb ∧ Jvm.Cond.selects pm_49.2.1.cls pm_49.2.1 pm_49.2.1 ∈ gtb := ⟨(gw (List.mem_append_right _ (List.mem_append_right _ (List.mem_append_left _ (List.mem_of_getElem? (l := tables_1_2) (i := 234) rfl)))) rfl), (gw (List.mem_append_right _ (List.mem_append_right _ (List.mem_append_left _ (List.mem_of_getElem? (l := tables_1_2) (i := 235) rfl)))) rfl)⟩
set_option maxRecDepth 100000 in
theorem ml_60 : MPr [1, 76, 1, 49, 2, 1, 0] := ⟨"OneAtATime$BitList", pm_49, ("OneAtATime$BitList", kT0, 7), rfl, rfl, rfl, rfl, (gw (List.mem_append_right _ (List.mem_append_right _ (List.mem_append_left _ (List.mem_of_getElem? (l := tables_1_2) (i := 233) rfl)))) rfl), mi_49, mf_49, rfl, Nat.le_of_ble_eq_true rfl⟩
set_option maxRecDepth 100000 in
theorem mf_50 : MFr pm_50 1 := ⟨(gw (List.mem_append_right _ (List.mem_append_right _ (List.mem_append_left _ (List.mem_of_getElem? (l := tables_1_2) (i := 239) rfl)))) rfl), ini_11, by decide +kernel, by decide +kernel⟩
set_option maxRecDepth 100000 in
theorem mi_50 : Jvm.Cond.static pm_50.2.1 ∈ gtb := (gw (List.mem_append_right _ (List.mem_append_right _ (List.mem_append_left _ (List.mem_of_getElem? (l := tables_1_2) (i := 238) rfl)))) rfl)
set_option maxRecDepth 100000 in
theorem ml_61 : MPr [1, 70, 0, 50, 1, 1, 0] := ⟨"OneAtATime$BitList", pm_50, rfl, rfl, (gw (List.mem_append_right _ (List.mem_append_right _ (List.mem_append_left _ (List.mem_of_getElem? (l := tables_1_2) (i := 237) rfl)))) rfl), mi_50, mf_50, rfl, Nat.le_of_ble_eq_true rfl⟩
set_option maxRecDepth 100000 in
theorem ml_62 : MPr [0, 139, 1, 43, 1, 1, 0] := ⟨"OneAtATime", pm_43, ("OneAtATime$BitList", kT0, 7), rfl, rfl, rfl, rfl, (gw (List.mem_append_right _ (List.mem_append_right _ (List.mem_append_right _ (List.mem_append_left _ (List.mem_of_getElem? (l := tables_1_3) (i := 7) rfl))))) rfl), mi_43, mf_43, rfl, Nat.le_of_ble_eq_true rfl⟩
set_option maxRecDepth 100000 in
theorem mf_52 : MFr pm_52 1 := ⟨(gw (List.mem_append_right _ (List.mem_append_right _ (List.mem_append_right _ (List.mem_append_left _ (List.mem_of_getElem? (l := tables_1_3) (i := 10) rfl))))) rfl), ini_0, by decide +kernel, by decide +kernel⟩
set_option maxRecDepth 100000 in
theorem mi_52 : Jvm.Cond.static pm_52.2.1 ∈ gtb := (gw (List.mem_append_right _ (List.mem_append_right _ (List.mem_append_right _ (List.mem_append_left _ (List.mem_of_getElem? (l := tables_1_3) (i := 9) rfl))))) rfl)
set_option maxRecDepth 100000 in
theorem ml_63 : MPr [0, 143, 0, 52, 1, 1, 0] := ⟨"OneAtATime", pm_52, rfl, rfl, (gw (List.mem_append_right _ (List.mem_append_right _ (List.mem_append_right _ (List.mem_append_left _ (List.mem_of_getElem? (l := tables_1_3) (i := 8) rfl))))) rfl), mi_52, mf_52, rfl, Nat.le_of_ble_eq_true rfl⟩
set_option maxRecDepth 100000 in
theorem mf_53 : MFr pm_53 1 := ⟨(gw (List.mem_append_right _ (List.mem_append_right _ (List.mem_append_right _ (List.mem_append_left _ (List.mem_of_getElem? (l := tables_1_3) (i := 14) rfl))))) rfl), ini_6, by decide +kernel, by decide +kernel⟩
set_option maxRecDepth 100000 in
theorem mi_53 : Jvm.Cond.instanceMethod pm_53.2.1 ∈ gtb ∧ Jvm.Cond.selects pm_53.2.1.cls pm_53.2.1 pm_53.2.1 ∈ gtb := ⟨(gw (List.mem_append_right _ (List.mem_append_right _ (List.mem_append_right _ (List.mem_append_left _ (List.mem_of_getElem? (l := tables_1_3) (i := 12) rfl))))) rfl), (gw (List.mem_append_right _ (List.mem_append_right _ (List.mem_append_right _ (List.mem_append_left _ (List.mem_of_getElem? (l := tables_1_3) (i := 13) rfl))))) rfl)⟩
set_option maxRecDepth 100000 in
theorem ml_64 : MPr [0, 147, 1, 53, 2, 1, 7] := ⟨"OneAtATime", pm_53, ("OneAtATime$Survey", kT7, 5), rfl, rfl, rfl, rfl, (gw (List.mem_append_right _ (List.mem_append_right _ (List.mem_append_right _ (List.mem_append_left _ (List.mem_of_getElem? (l := tables_1_3) (i := 11) rfl))))) rfl), mi_53, mf_53, rfl, Nat.le_of_ble_eq_true rfl⟩
set_option maxRecDepth 100000 in
theorem mf_54 : MFr pm_54 1 := ⟨(gw (List.mem_append_right _ (List.mem_append_right _ (List.mem_append_right _ (List.mem_append_left _ (List.mem_of_getElem? (l := tables_1_3) (i := 19) rfl))))) rfl), ini_6, by decide +kernel, by decide +kernel⟩
set_option maxRecDepth 100000 in
theorem mi_54 : Jvm.Cond.instanceMethod pm_54.2.1 ∈ gtb ∧ Jvm.Cond.selects pm_54.2.1.cls pm_54.2.1 pm_54.2.1 ∈ gtb := ⟨(gw (List.mem_append_right _ (List.mem_append_right _ (List.mem_append_right _ (List.mem_append_left _ (List.mem_of_getElem? (l := tables_1_3) (i := 17) rfl))))) rfl), (gw (List.mem_append_right _ (List.mem_append_right _ (List.mem_append_right _ (List.mem_append_left _ (List.mem_of_getElem? (l := tables_1_3) (i := 18) rfl))))) rfl)⟩
set_option maxRecDepth 100000 in
theorem ml_65 : MPr [0, 150, 1, 54, 2, 1, 7] := ⟨"OneAtATime", pm_54, ("OneAtATime$Survey", kT7, 5), rfl, rfl, rfl, rfl, (gw (List.mem_append_right _ (List.mem_append_right _ (List.mem_append_right _ (List.mem_append_left _ (List.mem_of_getElem? (l := tables_1_3) (i := 16) rfl))))) rfl), mi_54, mf_54, rfl, Nat.le_of_ble_eq_true rfl⟩
set_option maxRecDepth 100000 in
theorem mf_55 : MFr pm_55 1 := ⟨(gw (List.mem_append_right _ (List.mem_append_right _ (List.mem_append_right _ (List.mem_append_left _ (List.mem_of_getElem? (l := tables_1_3) (i := 23) rfl))))) rfl), ini_6, by decide +kernel, by decide +kernel⟩
set_option maxRecDepth 100000 in
theorem mi_55 : Jvm.Cond.static pm_55.2.1 ∈ gtb := (gw (List.mem_append_right _ (List.mem_append_right _ (List.mem_append_right _ (List.mem_append_left _ (List.mem_of_getElem? (l := tables_1_3) (i := 22) rfl))))) rfl)
set_option maxRecDepth 100000 in
theorem ml_66 : MPr [0, 153, 0, 55, 1, 1, 0] := ⟨"OneAtATime", pm_55, rfl, rfl, (gw (List.mem_append_right _ (List.mem_append_right _ (List.mem_append_right _ (List.mem_append_left _ (List.mem_of_getElem? (l := tables_1_3) (i := 21) rfl))))) rfl), mi_55, mf_55, rfl, Nat.le_of_ble_eq_true rfl⟩
set_option maxRecDepth 100000 in
theorem mf_57 : MFr pm_57 1 := ⟨(gw (List.mem_append_right _ (List.mem_append_right _ (List.mem_append_right _ (List.mem_append_left _ (List.mem_of_getElem? (l := tables_1_3) (i := 33) rfl))))) rfl), ini_6, by decide +kernel, by decide +kernel⟩
set_option maxRecDepth 100000 in
theorem mi_57 : Jvm.Cond.instanceMethod pm_57.2.1 ∈ gtb ∧ Jvm.Cond.selects pm_57.2.1.cls pm_57.2.1 pm_57.2.1 ∈ gtb := ⟨(gw (List.mem_append_right _ (List.mem_append_right _ (List.mem_append_right _ (List.mem_append_left _ (List.mem_of_getElem? (l := tables_1_3) (i := 31) rfl))))) rfl), (gw (List.mem_append_right _ (List.mem_append_right _ (List.mem_append_right _ (List.mem_append_left _ (List.mem_of_getElem? (l := tables_1_3) (i := 32) rfl))))) rfl)⟩
set_option maxRecDepth 100000 in
theorem ml_67 : MPr [0, 156, 1, 57, 2, 1, 7] := ⟨"OneAtATime", pm_57, ("OneAtATime$Survey", kT7, 5), rfl, rfl, rfl, rfl, (gw (List.mem_append_right _ (List.mem_append_right _ (List.mem_append_right _ (List.mem_append_left _ (List.mem_of_getElem? (l := tables_1_3) (i := 30) rfl))))) rfl), mi_57, mf_57, rfl, Nat.le_of_ble_eq_true rfl⟩
set_option maxRecDepth 100000 in
theorem mf_60 : MFr pm_60 1 := ⟨(gw (List.mem_append_right _ (List.mem_append_right _ (List.mem_append_right _ (List.mem_append_left _ (List.mem_of_getElem? (l := tables_1_3) (i := 45) rfl))))) rfl), ini_6, by decide +kernel, by decide +kernel⟩
set_option maxRecDepth 100000 in
theorem mi_60 : Jvm.Cond.static pm_60.2.1 ∈ gtb := (gw (List.mem_append_right _ (List.mem_append_right _ (List.mem_append_right _ (List.mem_append_left _ (List.mem_of_getElem? (l := tables_1_3) (i := 44) rfl))))) rfl)
set_option maxRecDepth 100000 in
theorem ml_68 : MPr [0, 159, 0, 60, 1, 1, 0] := ⟨"OneAtATime", pm_60, rfl, rfl, (gw (List.mem_append_right _ (List.mem_append_right _ (List.mem_append_right _ (List.mem_append_left _ (List.mem_of_getElem? (l := tables_1_3) (i := 43) rfl))))) rfl), mi_60, mf_60, rfl, Nat.le_of_ble_eq_true rfl⟩
set_option maxRecDepth 100000 in
theorem mf_61 : MFr pm_61 1 := ⟨(gw (List.mem_append_right _ (List.mem_append_right _ (List.mem_append_right _ (List.mem_append_left _ (List.mem_of_getElem? (l := tables_1_3) (i := 48) rfl))))) rfl), ini_6, by decide +kernel, by decide +kernel⟩
set_option maxRecDepth 100000 in
theorem mi_61 : Jvm.Cond.static pm_61.2.1 ∈ gtb := (gw (List.mem_append_right _ (List.mem_append_right _ (List.mem_append_right _ (List.mem_append_left _ (List.mem_of_getElem? (l := tables_1_3) (i := 47) rfl))))) rfl)
set_option maxRecDepth 100000 in
theorem ml_69 : MPr [0, 162, 0, 61, 1, 1, 0] := ⟨"OneAtATime", pm_61, rfl, rfl, (gw (List.mem_append_right _ (List.mem_append_right _ (List.mem_append_right _ (List.mem_append_left _ (List.mem_of_getElem? (l := tables_1_3) (i := 46) rfl))))) rfl), mi_61, mf_61, rfl, Nat.le_of_ble_eq_true rfl⟩
set_option maxRecDepth 100000 in
theorem ml_70 : MPr [6, 49, 1, 44, 2, 1, 7] := ⟨"OneAtATime$Survey", pm_44, ("OneAtATime$Survey", kT7, 5), rfl, rfl, rfl, rfl, (gw (List.mem_append_right _ (List.mem_append_right _ (List.mem_append_right _ (List.mem_append_left _ (List.mem_of_getElem? (l := tables_1_3) (i := 15) rfl))))) rfl), mi_44, mf_44, rfl, Nat.le_of_ble_eq_true rfl⟩
set_option maxRecDepth 100000 in
theorem ml_71 : MPr [6, 53, 1, 49, 2, 1, 0] := ⟨"OneAtATime$Survey", pm_49, ("OneAtATime$BitList", kT0, 7), rfl, rfl, rfl, rfl, (gw (List.mem_append_right _ (List.mem_append_right _ (List.mem_append_right _ (List.mem_append_left _ (List.mem_of_getElem? (l := tables_1_3) (i := 20) rfl))))) rfl), mi_49, mf_49, rfl, Nat.le_of_ble_eq_true rfl⟩
set_option maxRecDepth 100000 in
theorem mf_56 : MFr pm_56 1 := ⟨(gw (List.mem_append_right _ (List.mem_append_right _ (List.mem_append_right _ (List.mem_append_left _ (List.mem_of_getElem? (l := tables_1_3) (i := 27) rfl))))) rfl), ini_1, by decide +kernel, by decide +kernel⟩
set_option maxRecDepth 100000 in
theorem mi_56 : Jvm.Cond.instanceMethod pm_56.2.1 ∈ gtb ∧ Jvm.Cond.selects pm_56.2.1.cls pm_56.2.1 pm_56.2.1 ∈ gtb := ⟨(gw (List.mem_append_right _ (List.mem_append_right _ (List.mem_append_right _ (List.mem_append_left _ (List.mem_of_getElem? (l := tables_1_3) (i := 25) rfl))))) rfl), (gw (List.mem_append_right _ (List.mem_append_right _ (List.mem_append_right _ (List.mem_append_left _ (List.mem_of_getElem? (l := tables_1_3) (i := 26) rfl))))) rfl)⟩
set_option maxRecDepth 100000 in
theorem ml_72 : MPr [6, 61, 1, 56, 2, 1, 0] := ⟨"OneAtATime$Survey", pm_56, ("OneAtATime$BitList", kT0, 7), rfl, rfl, rfl, rfl, (gw (List.mem_append_right _ (List.mem_append_right _ (List.mem_append_right _ (List.mem_append_left _ (List.mem_of_getElem? (l := tables_1_3) (i := 24) rfl))))) rfl), mi_56, mf_56, rfl, Nat.le_of_ble_eq_true rfl⟩
set_option maxRecDepth 100000 in
theorem ml_73 : MPr [6, 65, 0, 1004, 2, 1, 0] := ⟨"OneAtATime$Survey", rfl, (gw (List.mem_append_right _ (List.mem_append_right _ (List.mem_append_right _ (List.mem_append_left _ (List.mem_of_getElem? (l := tables_1_3) (i := 29) rfl))))) rfl), mw_1004⟩
set_option maxRecDepth 100000 in
theorem ml_74 : MPr [1, 53, 0, 1005, 2, 1, 0] := ⟨"OneAtATime$BitList", rfl, (gw (List.mem_append_right _ (List.mem_append_right _ (List.mem_append_right _ (List.mem_append_left _ (List.mem_of_getElem? (l := tables_1_3) (i := 28) rfl))))) rfl), mw_1005⟩
set_option maxRecDepth 100000 in
theorem ml_75 : MPr [6, 71, 1, 53, 2, 1, 7] := ⟨"OneAtATime$Survey", pm_53, ("OneAtATime$Survey", kT7, 5), rfl, rfl, rfl, rfl, (gw (List.mem_append_right _ (List.mem_append_right _ (List.mem_append_right _ (List.mem_append_left _ (List.mem_of_getElem? (l := tables_1_3) (i := 34) rfl))))) rfl), mi_53, mf_53, rfl, Nat.le_of_ble_eq_true rfl⟩
set_option maxRecDepth 100000 in
theorem mf_58 : MFr pm_58 3 := ⟨(gw (List.mem_append_right _ (List.mem_append_right _ (List.mem_append_right _ (List.mem_append_left _ (List.mem_of_getElem? (l := tables_1_3) (i := 37) rfl))))) rfl), ini_6, by decide +kernel, by decide +kernel⟩
set_option maxRecDepth 100000 in
theorem mi_58 : Jvm.Cond.static pm_58.2.1 ∈ gtb := (gw (List.mem_append_right _ (List.mem_append_right _ (List.mem_append_right _ (List.mem_append_left _ (List.mem_of_getElem? (l := tables_1_3) (i := 36) rfl))))) rfl)
set_option maxRecDepth 100000 in
theorem ml_76 : MPr [6, 78, 0, 58, 3, 1, 0] := ⟨"OneAtATime$Survey", pm_58, rfl, rfl, (gw (List.mem_append_right _ (List.mem_append_right _ (List.mem_append_right _ (List.mem_append_left _ (List.mem_of_getElem? (l := tables_1_3) (i := 35) rfl))))) rfl), mi_58, mf_58, rfl, Nat.le_of_ble_eq_true rfl⟩
set_option maxRecDepth 100000 in
theorem ml_77 : MPr [6, 82, 0, 1006, 1, 1, 0] := ⟨"OneAtATime$Survey", rfl, (gw (List.mem_append_right _ (List.mem_append_right _ (List.mem_append_right _ (List.mem_append_left _ (List.mem_of_getElem? (l := tables_1_3) (i := 38) rfl))))) rfl), mw_1006⟩
set_option maxRecDepth 100000 in
theorem ml_78 : MPr [6, 85, 1, 43, 1, 1, 0] := ⟨"OneAtATime$Survey", pm_43, ("OneAtATime$BitList", kT0, 7), rfl, rfl, rfl, rfl, (gw (List.mem_append_right _ (List.mem_append_right _ (List.mem_append_right _ (List.mem_append_left _ (List.mem_of_getElem? (l := tables_1_3) (i := 41) rfl))))) rfl), mi_43, mf_43, rfl, Nat.le_of_ble_eq_true rfl⟩
set_option maxRecDepth 100000 in
theorem ml_79 : MPr [6, 89, 0, 1005, 2, 1, 0] := ⟨"OneAtATime$Survey", rfl, (gw (List.mem_append_right _ (List.mem_append_right _ (List.mem_append_right _ (List.mem_append_left _ (List.mem_of_getElem? (l := tables_1_3) (i := 42) rfl))))) rfl), mw_1005⟩
set_option maxRecDepth 100000 in
theorem mf_62 : MFr pm_62 2 := ⟨(gw (List.mem_append_right _ (List.mem_append_right _ (List.mem_append_right _ (List.mem_append_left _ (List.mem_of_getElem? (l := tables_1_3) (i := 51) rfl))))) rfl), ini_6, by decide +kernel, by decide +kernel⟩
set_option maxRecDepth 100000 in
theorem mi_62 : Jvm.Cond.static pm_62.2.1 ∈ gtb := (gw (List.mem_append_right _ (List.mem_append_right _ (List.mem_append_right _ (List.mem_append_left _ (List.mem_of_getElem? (l := tables_1_3) (i := 50) rfl))))) rfl)
set_option maxRecDepth 100000 in
theorem ml_80 : MPr [6, 92, 0, 62, 2, 1, 0] := ⟨"OneAtATime$Survey", pm_62, rfl, rfl, (gw (List.mem_append_right _ (List.mem_append_right _ (List.mem_append_right _ (List.mem_append_left _ (List.mem_of_getElem? (l := tables_1_3) (i := 49) rfl))))) rfl), mi_62, mf_62, rfl, Nat.le_of_ble_eq_true rfl⟩
set_option maxRecDepth 100000 in
theorem mf_63 : MFr pm_63 3 := ⟨(gw (List.mem_append_right _ (List.mem_append_right _ (List.mem_append_right _ (List.mem_append_left _ (List.mem_of_getElem? (l := tables_1_3) (i := 54) rfl))))) rfl), ini_6, by decide +kernel, by decide +kernel⟩
set_option maxRecDepth 100000 in
theorem mi_63 : Jvm.Cond.static pm_63.2.1 ∈ gtb := (gw (List.mem_append_right _ (List.mem_append_right _ (List.mem_append_right _ (List.mem_append_left _ (List.mem_of_getElem? (l := tables_1_3) (i := 53) rfl))))) rfl)
set_option maxRecDepth 100000 in
theorem ml_81 : MPr [6, 96, 0, 63, 3, 1, 0] := ⟨"OneAtATime$Survey", pm_63, rfl, rfl, (gw (List.mem_append_right _ (List.mem_append_right _ (List.mem_append_right _ (List.mem_append_left _ (List.mem_of_getElem? (l := tables_1_3) (i := 52) rfl))))) rfl), mi_63, mf_63, rfl, Nat.le_of_ble_eq_true rfl⟩
set_option maxRecDepth 100000 in
theorem mf_64 : MFr pm_64 2 := ⟨(gw (List.mem_append_right _ (List.mem_append_right _ (List.mem_append_right _ (List.mem_append_left _ (List.mem_of_getElem? (l := tables_1_3) (i := 58) rfl))))) rfl), ini_1, by decide +kernel, by decide +kernel⟩
set_option maxRecDepth 100000 in
theorem mi_64 : Jvm.Cond.instanceMethod pm_64.2.1 ∈ gtb ∧ Jvm.Cond.selects pm_64.2.1.cls pm_64.2.1 pm_64.2.1 ∈ gtb := ⟨(gw (List.mem_append_right _ (List.mem_append_right _ (List.mem_append_right _ (List.mem_append_left _ (List.mem_of_getElem? (l := tables_1_3) (i := 56) rfl))))) rfl), (gw (List.mem_append_right _ (List.mem_append_right _ (List.mem_append_right _ (List.mem_append_left _ (List.mem_of_getElem? (l := tables_1_3) (i := 57) rfl))))) rfl)⟩
set_option maxRecDepth 100000 in
theorem ml_82 : MPr [6, 100, 1, 64, 3, 1, 0] := ⟨"OneAtATime$Survey", pm_64, ("OneAtATime$BitList", kT0, 7), rfl, rfl, rfl, rfl, (gw (List.mem_append_right _ (List.mem_append_right _ (List.mem_append_right _ (List.mem_append_left _ (List.mem_of_getElem? (l := tables_1_3) (i := 55) rfl))))) rfl), mi_64, mf_64, rfl, Nat.le_of_ble_eq_true rfl⟩
set_option maxRecDepth 100000 in
theorem mf_68 : MFr pm_68 1 := ⟨(gw (List.mem_append_right _ (List.mem_append_right _ (List.mem_append_right _ (List.mem_append_left _ (List.mem_of_getElem? (l := tables_1_3) (i := 74) rfl))))) rfl), ini_1, by decide +kernel, by decide +kernel⟩
set_option maxRecDepth 100000 in
theorem mi_68 : Jvm.Cond.instanceMethod pm_68.2.1 ∈ gtb ∧ Jvm.Cond.selects pm_68.2.1.cls pm_68.2.1 pm_68.2.1 ∈ gtb := ⟨(gw (List.mem_append_right _ (List.mem_append_right _ (List.mem_append_right _ (List.mem_append_left _ (List.mem_of_getElem? (l := tables_1_3) (i := 72) rfl))))) rfl), (gw (List.mem_append_right _ (List.mem_append_right _ (List.mem_append_right _ (List.mem_append_left _ (List.mem_of_getElem? (l := tables_1_3) (i := 73) rfl))))) rfl)⟩
set_option maxRecDepth 100000 in
theorem ml_83 : MPr [0, 168, 1, 68, 2, 1, 0] := ⟨"OneAtATime", pm_68, ("OneAtATime$BitList", kT0, 7), rfl, rfl, rfl, rfl, (gw (List.mem_append_right _ (List.mem_append_right _ (List.mem_append_right _ (List.mem_append_left _ (List.mem_of_getElem? (l := tables_1_3) (i := 71) rfl))))) rfl), mi_68, mf_68, rfl, Nat.le_of_ble_eq_true rfl⟩
set_option maxRecDepth 100000 in
theorem mf_70 : MFr pm_70 2 := ⟨(gw (List.mem_append_right _ (List.mem_append_right _ (List.mem_append_right _ (List.mem_append_left _ (List.mem_of_getElem? (l := tables_1_3) (i := 82) rfl))))) rfl), ini_6, by decide +kernel, by decide +kernel⟩
set_option maxRecDepth 100000 in
theorem mi_70 : Jvm.Cond.instanceMethod pm_70.2.1 ∈ gtb ∧ Jvm.Cond.selects pm_70.2.1.cls pm_70.2.1 pm_70.2.1 ∈ gtb := ⟨(gw (List.mem_append_right _ (List.mem_append_right _ (List.mem_append_right _ (List.mem_append_left _ (List.mem_of_getElem? (l := tables_1_3) (i := 80) rfl))))) rfl), (gw (List.mem_append_right _ (List.mem_append_right _ (List.mem_append_right _ (List.mem_append_left _ (List.mem_of_getElem? (l := tables_1_3) (i := 81) rfl))))) rfl)⟩
set_option maxRecDepth 100000 in
theorem ml_84 : MPr [0, 171, 1, 70, 3, 1, 7] := ⟨"OneAtATime", pm_70, ("OneAtATime$Survey", kT7, 5), rfl, rfl, rfl, rfl, (gw (List.mem_append_right _ (List.mem_append_right _ (List.mem_append_right _ (List.mem_append_left _ (List.mem_of_getElem? (l := tables_1_3) (i := 79) rfl))))) rfl), mi_70, mf_70, rfl, Nat.le_of_ble_eq_true rfl⟩
set_option maxRecDepth 100000 in
theorem ml_85 : MPr [0, 175, 1, 30, 2, 1, 0] := ⟨"OneAtATime", pm_30, ("OneAtATime$BitList", kT0, 7), rfl, rfl, rfl, rfl, (gw (List.mem_append_right _ (List.mem_append_right _ (List.mem_append_right _ (List.mem_append_left _ (List.mem_of_getElem? (l := tables_1_3) (i := 87) rfl))))) rfl), mi_30, mf_30, rfl, Nat.le_of_ble_eq_true rfl⟩
set_option maxRecDepth 100000 in
theorem mf_72 : MFr pm_72 1 := ⟨(gw (List.mem_append_right _ (List.mem_append_right _ (List.mem_append_right _ (List.mem_append_left _ (List.mem_of_getElem? (l := tables_1_3) (i := 91) rfl))))) rfl), ini_1, by decide +kernel, by decide +kernel⟩
set_option maxRecDepth 100000 in
theorem mi_72 : Jvm.Cond.instanceMethod pm_72.2.1 ∈ gtb ∧ Jvm.Cond.selects pm_72.2.1.cls pm_72.2.1 pm_72.2.1 ∈ gtb := ⟨(gw (List.mem_append_right _ (List.mem_append_right _ (List.mem_append_right _ (List.mem_append_left _ (List.mem_of_getElem? (l := tables_1_3) (i := 89) rfl))))) rfl), (gw (List.mem_append_right _ (List.mem_append_right _ (List.mem_append_right _ (List.mem_append_left _ (List.mem_of_getElem? (l := tables_1_3) (i := 90) rfl))))) rfl)⟩
set_option maxRecDepth 100000 in
theorem ml_86 : MPr [0, 178, 1, 72, 2, 1, 0] := ⟨"OneAtATime", pm_72, ("OneAtATime$BitList", kT0, 7), rfl, rfl, rfl, rfl, (gw (List.mem_append_right _ (List.mem_append_right _ (List.mem_append_right _ (List.mem_append_left _ (List.mem_of_getElem? (l := tables_1_3) (i := 88) rfl))))) rfl), mi_72, mf_72, rfl, Nat.le_of_ble_eq_true rfl⟩
set_option maxRecDepth 100000 in
theorem mf_74 : MFr pm_74 2 := ⟨(gw (List.mem_append_right _ (List.mem_append_right _ (List.mem_append_right _ (List.mem_append_left _ (List.mem_of_getElem? (l := tables_1_3) (i := 98) rfl))))) rfl), ini_6, by decide +kernel, by decide +kernel⟩
set_option maxRecDepth 100000 in
theorem mi_74 : Jvm.Cond.static pm_74.2.1 ∈ gtb := (gw (List.mem_append_right _ (List.mem_append_right _ (List.mem_append_right _ (List.mem_append_left _ (List.mem_of_getElem? (l := tables_1_3) (i := 97) rfl))))) rfl)
set_option maxRecDepth 100000 in
theorem ml_87 : MPr [0, 181, 0, 74, 2, 1, 0] := ⟨"OneAtATime", pm_74, rfl, rfl, (gw (List.mem_append_right _ (List.mem_append_right _ (List.mem_append_right _ (List.mem_append_left _ (List.mem_of_getElem? (l := tables_1_3) (i := 96) rfl))))) rfl), mi_74, mf_74, rfl, Nat.le_of_ble_eq_true rfl⟩
set_option maxRecDepth 100000 in
theorem ml_88 : MPr [6, 103, 1, 72, 2, 1, 0] := ⟨"OneAtATime$Survey", pm_72, ("OneAtATime$BitList", kT0, 7), rfl, rfl, rfl, rfl, (gw (List.mem_append_right _ (List.mem_append_right _ (List.mem_append_right _ (List.mem_append_left _ (List.mem_of_getElem? (l := tables_1_3) (i := 99) rfl))))) rfl), mi_72, mf_72, rfl, Nat.le_of_ble_eq_true rfl⟩
set_option maxRecDepth 100000 in
theorem mf_76 : MFr pm_76 1 := ⟨(gw (List.mem_append_right _ (List.mem_append_right _ (List.mem_append_right _ (List.mem_append_left _ (List.mem_of_getElem? (l := tables_1_3) (i := 106) rfl))))) rfl), ini_6, by decide +kernel, by decide +kernel⟩
set_option maxRecDepth 100000 in
theorem mi_76 : Jvm.Cond.static pm_76.2.1 ∈ gtb := (gw (List.mem_append_right _ (List.mem_append_right _ (List.mem_append_right _ (List.mem_append_left _ (List.mem_of_getElem? (l := tables_1_3) (i := 105) rfl))))) rfl)
set_option maxRecDepth 100000 in
theorem ml_89 : MPr [0, 184, 0, 76, 1, 1, 0] := ⟨"OneAtATime", pm_76, rfl, rfl, (gw (List.mem_append_right _ (List.mem_append_right _ (List.mem_append_right _ (List.mem_append_left _ (List.mem_of_getElem? (l := tables_1_3) (i := 104) rfl))))) rfl), mi_76, mf_76, rfl, Nat.le_of_ble_eq_true rfl⟩
set_option maxRecDepth 100000 in
theorem mf_78 : MFr pm_78 1 := ⟨(gw (List.mem_append_right _ (List.mem_append_right _ (List.mem_append_right _ (List.mem_append_left _ (List.mem_of_getElem? (l := tables_1_3) (i := 113) rfl))))) rfl), ini_6, by decide +kernel, by decide +kernel⟩
set_option maxRecDepth 100000 in
theorem mi_78 : Jvm.Cond.static pm_78.2.1 ∈ gtb := (gw (List.mem_append_right _ (List.mem_append_right _ (List.mem_append_right _ (List.mem_append_left _ (List.mem_of_getElem? (l := tables_1_3) (i := 112) rfl))))) rfl)
set_option maxRecDepth 100000 in
theorem ml_90 : MPr [0, 187, 0, 78, 1, 1, 0] := ⟨"OneAtATime", pm_78, rfl, rfl, (gw (List.mem_append_right _ (List.mem_append_right _ (List.mem_append_right _ (List.mem_append_left _ (List.mem_of_getElem? (l := tables_1_3) (i := 111) rfl))))) rfl), mi_78, mf_78, rfl, Nat.le_of_ble_eq_true rfl⟩
set_option maxRecDepth 100000 in
theorem mf_79 : MFr pm_79 2 := ⟨(gw (List.mem_append_right _ (List.mem_append_right _ (List.mem_append_right _ (List.mem_append_left _ (List.mem_of_getElem? (l := tables_1_3) (i := 116) rfl))))) rfl), ini_6, by decide +kernel, by decide +kernel⟩
set_option maxRecDepth 100000 in
theorem mi_79 : Jvm.Cond.static pm_79.2.1 ∈ gtb := (gw (List.mem_append_right _ (List.mem_append_right _ (List.mem_append_right _ (List.mem_append_left _ (List.mem_of_getElem? (l := tables_1_3) (i := 115) rfl))))) rfl)
set_option maxRecDepth 100000 in
theorem ml_91 : MPr [0, 190, 0, 79, 2, 1, 0] := ⟨"OneAtATime", pm_79, rfl, rfl, (gw (List.mem_append_right _ (List.mem_append_right _ (List.mem_append_right _ (List.mem_append_left _ (List.mem_of_getElem? (l := tables_1_3) (i := 120) rfl))))) rfl), mi_79, mf_79, rfl, Nat.le_of_ble_eq_true rfl⟩
set_option maxRecDepth 100000 in
theorem ml_92 : MPr [6, 106, 0, 79, 2, 1, 0] := ⟨"OneAtATime$Survey", pm_79, rfl, rfl, (gw (List.mem_append_right _ (List.mem_append_right _ (List.mem_append_right _ (List.mem_append_left _ (List.mem_of_getElem? (l := tables_1_3) (i := 114) rfl))))) rfl), mi_79, mf_79, rfl, Nat.le_of_ble_eq_true rfl⟩
set_option maxRecDepth 100000 in
theorem mf_80 : MFr pm_80 2 := ⟨(gw (List.mem_append_right _ (List.mem_append_right _ (List.mem_append_right _ (List.mem_append_left _ (List.mem_of_getElem? (l := tables_1_3) (i := 119) rfl))))) rfl), ini_6, by decide +kernel, by decide +kernel⟩
set_option maxRecDepth 100000 in
theorem mi_80 : Jvm.Cond.static pm_80.2.1 ∈ gtb := (gw (List.mem_append_right _ (List.mem_append_right _ (List.mem_append_right _ (List.mem_append_left _ (List.mem_of_getElem? (l := tables_1_3) (i := 118) rfl))))) rfl)
set_option maxRecDepth 100000 in
theorem ml_93 : MPr [6, 109, 0, 80, 2, 1, 0] := ⟨"OneAtATime$Survey", pm_80, rfl, rfl, (gw (List.mem_append_right _ (List.mem_append_right _ (List.mem_append_right _ (List.mem_append_left _ (List.mem_of_getElem? (l := tables_1_3) (i := 117) rfl))))) rfl), mi_80, mf_80, rfl, Nat.le_of_ble_eq_true rfl⟩
set_option maxRecDepth 100000 in
theorem mf_82 : MFr pm_82 1 := ⟨(gw (List.mem_append_right _ (List.mem_append_right _ (List.mem_append_right _ (List.mem_append_left _ (List.mem_of_getElem? (l := tables_1_3) (i := 127) rfl))))) rfl), ini_0, by decide +kernel, by decide +kernel⟩
set_option maxRecDepth 100000 in
theorem mi_82 : Jvm.Cond.static pm_82.2.1 ∈ gtb := (gw (List.mem_append_right _ (List.mem_append_right _ (List.mem_append_right _ (List.mem_append_left _ (List.mem_of_getElem? (l := tables_1_3) (i := 126) rfl))))) rfl)
set_option maxRecDepth 100000 in
theorem ml_94 : MPr [0, 193, 0, 82, 1, 1, 0] := ⟨"OneAtATime", pm_82, rfl, rfl, (gw (List.mem_append_right _ (List.mem_append_right _ (List.mem_append_right _ (List.mem_append_left _ (List.mem_of_getElem? (l := tables_1_3) (i := 125) rfl))))) rfl), mi_82, mf_82, rfl, Nat.le_of_ble_eq_true rfl⟩
set_option maxRecDepth 100000 in
theorem mf_83 : MFr pm_83 3 := ⟨(gw (List.mem_append_right _ (List.mem_append_right _ (List.mem_append_right _ (List.mem_append_left _ (List.mem_of_getElem? (l := tables_1_3) (i := 130) rfl))))) rfl), ini_6, by decide +kernel, by decide +kernel⟩
set_option maxRecDepth 100000 in
theorem mi_83 : Jvm.Cond.static pm_83.2.1 ∈ gtb := (gw (List.mem_append_right _ (List.mem_append_right _ (List.mem_append_right _ (List.mem_append_left _ (List.mem_of_getElem? (l := tables_1_3) (i := 129) rfl))))) rfl)
set_option maxRecDepth 100000 in
theorem ml_95 : MPr [0, 196, 0, 83, 3, 1, 0] := ⟨"OneAtATime", pm_83, rfl, rfl, (gw (List.mem_append_right _ (List.mem_append_right _ (List.mem_append_right _ (List.mem_append_left _ (List.mem_of_getElem? (l := tables_1_3) (i := 128) rfl))))) rfl), mi_83, mf_83, rfl, Nat.le_of_ble_eq_true rfl⟩
set_option maxRecDepth 100000 in
theorem mf_85 : MFr pm_85 3 := ⟨(gw (List.mem_append_right _ (List.mem_append_right _ (List.mem_append_right _ (List.mem_append_left _ (List.mem_of_getElem? (l := tables_1_3) (i := 137) rfl))))) rfl), ini_6, by decide +kernel, by decide +kernel⟩
set_option maxRecDepth 100000 in
theorem mi_85 : Jvm.Cond.static pm_85.2.1 ∈ gtb := (gw (List.mem_append_right _ (List.mem_append_right _ (List.mem_append_right _ (List.mem_append_left _ (List.mem_of_getElem? (l := tables_1_3) (i := 136) rfl))))) rfl)
set_option maxRecDepth 100000 in
theorem ml_96 : MPr [0, 200, 0, 85, 3, 1, 0] := ⟨"OneAtATime", pm_85, rfl, rfl, (gw (List.mem_append_right _ (List.mem_append_right _ (List.mem_append_right _ (List.mem_append_left _ (List.mem_of_getElem? (l := tables_1_3) (i := 135) rfl))))) rfl), mi_85, mf_85, rfl, Nat.le_of_ble_eq_true rfl⟩
set_option maxRecDepth 100000 in
theorem mf_87 : MFr pm_87 3 := ⟨(gw (List.mem_append_right _ (List.mem_append_right _ (List.mem_append_right _ (List.mem_append_left _ (List.mem_of_getElem? (l := tables_1_3) (i := 144) rfl))))) rfl), ini_6, by decide +kernel, by decide +kernel⟩
set_option maxRecDepth 100000 in
theorem mi_87 : Jvm.Cond.static pm_87.2.1 ∈ gtb := (gw (List.mem_append_right _ (List.mem_append_right _ (List.mem_append_right _ (List.mem_append_left _ (List.mem_of_getElem? (l := tables_1_3) (i := 143) rfl))))) rfl)
set_option maxRecDepth 100000 in
theorem ml_97 : MPr [0, 203, 0, 87, 3, 1, 0] := ⟨"OneAtATime", pm_87, rfl, rfl, (gw (List.mem_append_right _ (List.mem_append_right _ (List.mem_append_right _ (List.mem_append_left _ (List.mem_of_getElem? (l := tables_1_3) (i := 142) rfl))))) rfl), mi_87, mf_87, rfl, Nat.le_of_ble_eq_true rfl⟩
set_option maxRecDepth 100000 in
theorem ml_98 : MPr [6, 115, 0, 50, 1, 1, 0] := ⟨"OneAtATime$Survey", pm_50, rfl, rfl, (gw (List.mem_append_right _ (List.mem_append_right _ (List.mem_append_right _ (List.mem_append_left _ (List.mem_of_getElem? (l := tables_1_3) (i := 145) rfl))))) rfl), mi_50, mf_50, rfl, Nat.le_of_ble_eq_true rfl⟩
set_option maxRecDepth 100000 in
theorem ml_99 : MPr [0, 207, 0, 1005, 2, 1, 0] := ⟨"OneAtATime", rfl, (gw (List.mem_append_right _ (List.mem_append_right _ (List.mem_append_right _ (List.mem_append_left _ (List.mem_of_getElem? (l := tables_1_3) (i := 150) rfl))))) rfl), mw_1005⟩
set_option maxRecDepth 100000 in
theorem ml_100 : MPr [0, 213, 0, 62, 2, 1, 0] := ⟨"OneAtATime", pm_62, rfl, rfl, (gw (List.mem_append_right _ (List.mem_append_right _ (List.mem_append_right _ (List.mem_append_left _ (List.mem_of_getElem? (l := tables_1_3) (i := 155) rfl))))) rfl), mi_62, mf_62, rfl, Nat.le_of_ble_eq_true rfl⟩
set_option maxRecDepth 100000 in
theorem mf_91 : MFr pm_91 1 := ⟨(gw (List.mem_append_right _ (List.mem_append_right _ (List.mem_append_right _ (List.mem_append_left _ (List.mem_of_getElem? (l := tables_1_3) (i := 163) rfl))))) rfl), ini_1, by decide +kernel, by decide +kernel⟩
set_option maxRecDepth 100000 in
theorem mi_91 : Jvm.Cond.instanceMethod pm_91.2.1 ∈ gtb ∧ Jvm.Cond.selects pm_91.2.1.cls pm_91.2.1 pm_91.2.1 ∈ gtb := ⟨(gw (List.mem_append_right _ (List.mem_append_right _ (List.mem_append_right _ (List.mem_append_left _ (List.mem_of_getElem? (l := tables_1_3) (i := 161) rfl))))) rfl), (gw (List.mem_append_right _ (List.mem_append_right _ (List.mem_append_right _ (List.mem_append_left _ (List.mem_of_getElem? (l := tables_1_3) (i := 162) rfl))))) rfl)⟩
set_option maxRecDepth 100000 in
theorem ml_101 : MPr [0, 216, 1, 91, 2, 1, 0] := ⟨"OneAtATime", pm_91, ("OneAtATime$BitList", kT0, 7), rfl, rfl, rfl, rfl, (gw (List.mem_append_right _ (List.mem_append_right _ (List.mem_append_right _ (List.mem_append_left _ (List.mem_of_getElem? (l := tables_1_3) (i := 160) rfl))))) rfl), mi_91, mf_91, rfl, Nat.le_of_ble_eq_true rfl⟩
set_option maxRecDepth 100000 in
theorem ml_102 : MPr [0, 219, 0, 50, 1, 1, 0] := ⟨"OneAtATime", pm_50, rfl, rfl, (gw (List.mem_append_right _ (List.mem_append_right _ (List.mem_append_right _ (List.mem_append_left _ (List.mem_of_getElem? (l := tables_1_3) (i := 164) rfl))))) rfl), mi_50, mf_50, rfl, Nat.le_of_ble_eq_true rfl⟩
set_option maxRecDepth 100000 in
theorem mf_93 : MFr pm_93 1 := ⟨(gw (List.mem_append_right _ (List.mem_append_right _ (List.mem_append_right _ (List.mem_append_left _ (List.mem_of_getElem? (l := tables_1_3) (i := 172) rfl))))) rfl), ini_6, by decide +kernel, by decide +kernel⟩
set_option maxRecDepth 100000 in
theorem mi_93 : Jvm.Cond.instanceMethod pm_93.2.1 ∈ gtb ∧ Jvm.Cond.selects pm_93.2.1.cls pm_93.2.1 pm_93.2.1 ∈ gtb := ⟨(gw (List.mem_append_right _ (List.mem_append_right _ (List.mem_append_right _ (List.mem_append_left _ (List.mem_of_getElem? (l := tables_1_3) (i := 170) rfl))))) rfl), (gw (List.mem_append_right _ (List.mem_append_right _ (List.mem_append_right _ (List.mem_append_left _ (List.mem_of_getElem? (l := tables_1_3) (i := 171) rfl))))) rfl)⟩
set_option maxRecDepth 100000 in
theorem ml_103 : MPr [0, 224, 1, 93, 2, 1, 7] := ⟨"OneAtATime", pm_93, ("OneAtATime$Survey", kT7, 5), rfl, rfl, rfl, rfl, (gw (List.mem_append_right _ (List.mem_append_right _ (List.mem_append_right _ (List.mem_append_left _ (List.mem_of_getElem? (l := tables_1_3) (i := 169) rfl))))) rfl), mi_93, mf_93, rfl, Nat.le_of_ble_eq_true rfl⟩
set_option maxRecDepth 100000 in
theorem mf_94 : MFr pm_94 1 := ⟨(gw (List.mem_append_right _ (List.mem_append_right _ (List.mem_append_right _ (List.mem_append_left _ (List.mem_of_getElem? (l := tables_1_3) (i := 176) rfl))))) rfl), ini_6, by decide +kernel, by decide +kernel⟩
set_option maxRecDepth 100000 in
theorem mi_94 : Jvm.Cond.instanceMethod pm_94.2.1 ∈ gtb ∧ Jvm.Cond.selects pm_94.2.1.cls pm_94.2.1 pm_94.2.1 ∈ gtb := ⟨(gw (List.mem_append_right _ (List.mem_append_right _ (List.mem_append_right _ (List.mem_append_left _ (List.mem_of_getElem? (l := tables_1_3) (i := 175) rfl))))) rfl), (gw (List.mem_append_left _ (List.mem_of_getElem? (i := 12) rfl)) rfl)⟩
set_option maxRecDepth 100000 in
theorem ml_104 : MPr [6, 120, 1, 94, 2, 0, 7] := ⟨"OneAtATime$Survey", pm_94, ("OneAtATime$Survey", kT7, 5), rfl, rfl, rfl, rfl, (gw (List.mem_append_right _ (List.mem_append_right _ (List.mem_append_right _ (List.mem_append_left _ (List.mem_of_getElem? (l := tables_1_3) (i := 173) rfl))))) rfl), mi_94, mf_94, rfl, Nat.le_of_ble_eq_true rfl⟩
set_option maxRecDepth 100000 in
theorem mf_95 : MFr pm_95 1 := ⟨(gw (List.mem_append_right _ (List.mem_append_right _ (List.mem_append_right _ (List.mem_append_left _ (List.mem_of_getElem? (l := tables_1_3) (i := 180) rfl))))) rfl), ini_6, by decide +kernel, by decide +kernel⟩
set_option maxRecDepth 100000 in
theorem mi_95 : Jvm.Cond.instanceMethod pm_95.2.1 ∈ gtb ∧ Jvm.Cond.selects pm_95.2.1.cls pm_95.2.1 pm_95.2.1 ∈ gtb := ⟨(gw (List.mem_append_right _ (List.mem_append_right _ (List.mem_append_right _ (List.mem_append_left _ (List.mem_of_getElem? (l := tables_1_3) (i := 179) rfl))))) rfl), (gw (List.mem_append_left _ (List.mem_of_getElem? (i := 13) rfl)) rfl)⟩
set_option maxRecDepth 100000 in
theorem ml_105 : MPr [6, 123, 1, 95, 2, 1, 7] := ⟨"OneAtATime$Survey", pm_95, ("OneAtATime$Survey", kT7, 5), rfl, rfl, rfl, rfl, (gw (List.mem_append_right _ (List.mem_append_right _ (List.mem_append_right _ (List.mem_append_left _ (List.mem_of_getElem? (l := tables_1_3) (i := 177) rfl))))) rfl), mi_95, mf_95, rfl, Nat.le_of_ble_eq_true rfl⟩
set_option maxRecDepth 100000 in
theorem mf_97 : MFr pm_97 3 := ⟨(gw (List.mem_append_right _ (List.mem_append_right _ (List.mem_append_right _ (List.mem_append_left _ (List.mem_of_getElem? (l := tables_1_3) (i := 187) rfl))))) rfl), ini_6, by decide +kernel, by decide +kernel⟩
set_option maxRecDepth 100000 in
theorem mi_97 : Jvm.Cond.static pm_97.2.1 ∈ gtb := (gw (List.mem_append_right _ (List.mem_append_right _ (List.mem_append_right _ (List.mem_append_left _ (List.mem_of_getElem? (l := tables_1_3) (i := 186) rfl))))) rfl)
set_option maxRecDepth 100000 in
theorem ml_106 : MPr [0, 227, 0, 97, 3, 1, 0] := ⟨"OneAtATime", pm_97, rfl, rfl, (gw (List.mem_append_right _ (List.mem_append_right _ (List.mem_append_right _ (List.mem_append_left _ (List.mem_of_getElem? (l := tables_1_3) (i := 185) rfl))))) rfl), mi_97, mf_97, rfl, Nat.le_of_ble_eq_true rfl⟩
set_option maxRecDepth 100000 in
theorem mf_101 : MFr pm_101 1 := ⟨(gw (List.mem_append_right _ (List.mem_append_right _ (List.mem_append_right _ (List.mem_append_left _ (List.mem_of_getElem? (l := tables_1_3) (i := 202) rfl))))) rfl), ini_11, by decide +kernel, by decide +kernel⟩
set_option maxRecDepth 100000 in
theorem mi_101 : Jvm.Cond.static pm_101.2.1 ∈ gtb := (gw (List.mem_append_right _ (List.mem_append_right _ (List.mem_append_right _ (List.mem_append_left _ (List.mem_of_getElem? (l := tables_1_3) (i := 201) rfl))))) rfl)
set_option maxRecDepth 100000 in
theorem ml_107 : MPr [0, 230, 0, 101, 1, 1, 0] := ⟨"OneAtATime", pm_101, rfl, rfl, (gw (List.mem_append_right _ (List.mem_append_right _ (List.mem_append_right _ (List.mem_append_left _ (List.mem_of_getElem? (l := tables_1_3) (i := 200) rfl))))) rfl), mi_101, mf_101, rfl, Nat.le_of_ble_eq_true rfl⟩
set_option maxRecDepth 100000 in
theorem mf_103 : MFr pm_103 2 := ⟨(gw (List.mem_append_right _ (List.mem_append_right _ (List.mem_append_right _ (List.mem_append_left _ (List.mem_of_getElem? (l := tables_1_3) (i := 210) rfl))))) rfl), ini_12, by decide +kernel, by decide +kernel⟩
set_option maxRecDepth 100000 in
theorem mi_103 : Jvm.Cond.static pm_103.2.1 ∈ gtb := (gw (List.mem_append_right _ (List.mem_append_right _ (List.mem_append_right _ (List.mem_append_left _ (List.mem_of_getElem? (l := tables_1_3) (i := 209) rfl))))) rfl)
set_option maxRecDepth 100000 in
theorem ml_108 : MPr [0, 233, 0, 103, 2, 0, 0] := ⟨"OneAtATime", pm_103, rfl, rfl, (gw (List.mem_append_right _ (List.mem_append_right _ (List.mem_append_right _ (List.mem_append_left _ (List.mem_of_getElem? (l := tables_1_3) (i := 208) rfl))))) rfl), mi_103, mf_103, rfl, Nat.le_of_ble_eq_true rfl⟩
set_option maxRecDepth 100000 in
theorem mf_105 : MFr pm_105 2 := ⟨(gw (List.mem_append_right _ (List.mem_append_right _ (List.mem_append_right _ (List.mem_append_left _ (List.mem_of_getElem? (l := tables_1_3) (i := 221) rfl))))) rfl), ini_12, by decide +kernel, by decide +kernel⟩
set_option maxRecDepth 100000 in
theorem mi_105 : Jvm.Cond.static pm_105.2.1 ∈ gtb := (gw (List.mem_append_right _ (List.mem_append_right _ (List.mem_append_right _ (List.mem_append_left _ (List.mem_of_getElem? (l := tables_1_3) (i := 220) rfl))))) rfl)
set_option maxRecDepth 100000 in
theorem ml_109 : MPr [0, 239, 0, 105, 2, 0, 0] := ⟨"OneAtATime", pm_105, rfl, rfl, (gw (List.mem_append_right _ (List.mem_append_right _ (List.mem_append_right _ (List.mem_append_left _ (List.mem_of_getElem? (l := tables_1_3) (i := 219) rfl))))) rfl), mi_105, mf_105, rfl, Nat.le_of_ble_eq_true rfl⟩
set_option maxRecDepth 100000 in
theorem mf_106 : MFr pm_106 2 := ⟨(gw (List.mem_append_right _ (List.mem_append_right _ (List.mem_append_right _ (List.mem_append_left _ (List.mem_of_getElem? (l := tables_1_3) (i := 224) rfl))))) rfl), ini_12, by decide +kernel, by decide +kernel⟩
set_option maxRecDepth 100000 in
theorem mi_106 : Jvm.Cond.static pm_106.2.1 ∈ gtb := (gw (List.mem_append_right _ (List.mem_append_right _ (List.mem_append_right _ (List.mem_append_left _ (List.mem_of_getElem? (l := tables_1_3) (i := 223) rfl))))) rfl)
set_option maxRecDepth 100000 in
theorem ml_110 : MPr [0, 242, 0, 106, 2, 0, 0] := ⟨"OneAtATime", pm_106, rfl, rfl, (gw (List.mem_append_right _ (List.mem_append_right _ (List.mem_append_right _ (List.mem_append_left _ (List.mem_of_getElem? (l := tables_1_3) (i := 222) rfl))))) rfl), mi_106, mf_106, rfl, Nat.le_of_ble_eq_true rfl⟩
set_option maxRecDepth 100000 in
theorem mf_104 : MFr pm_104 2 := ⟨(gw (List.mem_append_right _ (List.mem_append_right _ (List.mem_append_right _ (List.mem_append_left _ (List.mem_of_getElem? (l := tables_1_3) (i := 214) rfl))))) rfl), ini_1, by decide +kernel, by decide +kernel⟩
set_option maxRecDepth 100000 in
theorem mi_104 : Jvm.Cond.instanceMethod pm_104.2.1 ∈ gtb ∧ Jvm.Cond.selects pm_104.2.1.cls pm_104.2.1 pm_104.2.1 ∈ gtb := ⟨(gw (List.mem_append_right _ (List.mem_append_right _ (List.mem_append_right _ (List.mem_append_left _ (List.mem_of_getElem? (l := tables_1_3) (i := 212) rfl))))) rfl), (gw (List.mem_append_right _ (List.mem_append_right _ (List.mem_append_right _ (List.mem_append_left _ (List.mem_of_getElem? (l := tables_1_3) (i := 213) rfl))))) rfl)⟩
set_option maxRecDepth 100000 in
theorem ml_111 : MPr [12, 13, 1, 104, 3, 0, 0] := ⟨"OneAtATime$Maker", pm_104, ("OneAtATime$BitList", kT0, 7), rfl, rfl, rfl, rfl, (gw (List.mem_append_right _ (List.mem_append_right _ (List.mem_append_right _ (List.mem_append_left _ (List.mem_of_getElem? (l := tables_1_3) (i := 211) rfl))))) rfl), mi_104, mf_104, rfl, Nat.le_of_ble_eq_true rfl⟩
set_option maxRecDepth 100000 in
theorem ml_112 : MPr [12, 17, 1, 47, 1, 1, 0] := ⟨"OneAtATime$Maker", pm_47, ("OneAtATime$BitList", kT0, 7), rfl, rfl, rfl, rfl, (gw (List.mem_append_right _ (List.mem_append_right _ (List.mem_append_right _ (List.mem_append_left _ (List.mem_of_getElem? (l := tables_1_3) (i := 216) rfl))))) rfl), mi_47, mf_47, rfl, Nat.le_of_ble_eq_true rfl⟩
set_option maxRecDepth 100000 in
theorem ml_113 : MPr [12, 21, 0, 101, 1, 1, 0] := ⟨"OneAtATime$Maker", pm_101, rfl, rfl, (gw (List.mem_append_right _ (List.mem_append_right _ (List.mem_append_right _ (List.mem_append_left _ (List.mem_of_getElem? (l := tables_1_3) (i := 217) rfl))))) rfl), mi_101, mf_101, rfl, Nat.le_of_ble_eq_true rfl⟩
set_option maxRecDepth 100000 in
theorem ml_114 : MPr [12, 27, 1, 31, 2, 0, 0] := ⟨"OneAtATime$Maker", pm_31, ("OneAtATime$BitList", kT0, 7), rfl, rfl, rfl, rfl, (gw (List.mem_append_right _ (List.mem_append_right _ (List.mem_append_right _ (List.mem_append_left _ (List.mem_of_getElem? (l := tables_1_3) (i := 218) rfl))))) rfl), mi_31, mf_31, rfl, Nat.le_of_ble_eq_true rfl⟩
set_option maxRecDepth 100000 in
theorem ml_115 : MPr [1, 35, 1, 28, 5, 0, 0] := ⟨"OneAtATime$BitList", pm_28, ("OneAtATime$BitList", kT0, 7), rfl, rfl, rfl, rfl, (gw (List.mem_append_right _ (List.mem_append_right _ (List.mem_append_right _ (List.mem_append_left _ (List.mem_of_getElem? (l := tables_1_3) (i := 215) rfl))))) rfl), mi_28, mf_28, rfl, Nat.le_of_ble_eq_true rfl⟩
set_option maxRecDepth 100000 in
theorem ml_116 : MPr [12, 35, 1, 35, 2, 0, 0] := ⟨"OneAtATime$Maker", pm_35, ("OneAtATime$BitList", kT0, 7), rfl, rfl, rfl, rfl, (gw (List.mem_append_right _ (List.mem_append_right _ (List.mem_append_right _ (List.mem_append_left _ (List.mem_of_getElem? (l := tables_1_3) (i := 225) rfl))))) rfl), mi_35, mf_35, rfl, Nat.le_of_ble_eq_true rfl⟩
set_option maxRecDepth 100000 in
theorem mf_107 : MFr pm_107 4 := ⟨(gw (List.mem_append_right _ (List.mem_append_right _ (List.mem_append_right _ (List.mem_append_left _ (List.mem_of_getElem? (l := tables_1_3) (i := 229) rfl))))) rfl), ini_1, by decide +kernel, by decide +kernel⟩
set_option maxRecDepth 100000 in
theorem mi_107 : Jvm.Cond.instanceMethod pm_107.2.1 ∈ gtb ∧ Jvm.Cond.selects pm_107.2.1.cls pm_107.2.1 pm_107.2.1 ∈ gtb := ⟨(gw (List.mem_append_right _ (List.mem_append_right _ (List.mem_append_right _ (List.mem_append_left _ (List.mem_of_getElem? (l := tables_1_3) (i := 227) rfl))))) rfl), (gw (List.mem_append_right _ (List.mem_append_right _ (List.mem_append_right _ (List.mem_append_left _ (List.mem_of_getElem? (l := tables_1_3) (i := 228) rfl))))) rfl)⟩
set_option maxRecDepth 100000 in
theorem ml_117 : MPr [12, 42, 1, 107, 5, 0, 0] := ⟨"OneAtATime$Maker", pm_107, ("OneAtATime$BitList", kT0, 7), rfl, rfl, rfl, rfl, (gw (List.mem_append_right _ (List.mem_append_right _ (List.mem_append_right _ (List.mem_append_left _ (List.mem_of_getElem? (l := tables_1_3) (i := 226) rfl))))) rfl), mi_107, mf_107, rfl, Nat.le_of_ble_eq_true rfl⟩
set_option maxRecDepth 100000 in
theorem ml_118 : MPr [1, 43, 0, 1004, 2, 1, 0] := ⟨"OneAtATime$BitList", rfl, (gw (List.mem_append_right _ (List.mem_append_right _ (List.mem_append_right _ (List.mem_append_left _ (List.mem_of_getElem? (l := tables_1_3) (i := 230) rfl))))) rfl), mw_1004⟩
set_option maxRecDepth 100000 in
theorem ml_119 : MPr [1, 49, 1, 31, 2, 0, 0] := ⟨"OneAtATime$BitList", pm_31, ("OneAtATime$BitList", kT0, 7), rfl, rfl, rfl, rfl, (gw (List.mem_append_right _ (List.mem_append_right _ (List.mem_append_right _ (List.mem_append_left _ (List.mem_of_getElem? (l := tables_1_3) (i := 231) rfl))))) rfl), mi_31, mf_31, rfl, Nat.le_of_ble_eq_true rfl⟩
set_option maxRecDepth 100000 in
theorem mf_109 : MFr pm_109 4 := ⟨(gw (List.mem_append_right _ (List.mem_append_right _ (List.mem_append_right _ (List.mem_append_right _ (List.mem_append_left _ (List.mem_of_getElem? (l := tables_1_4) (i := 0) rfl)))))) rfl), ini_7, by decide +kernel, by decide +kernel⟩
set_option maxRecDepth 100000 in
theorem mi_109 : Jvm.Cond.instanceMethod pm_109.2.1 ∈ gtb ∧ Jvm.Cond.selects pm_109.2.1.cls pm_109.2.1 pm_109.2.1 ∈ gtb := ⟨(gw (List.mem_append_right _ (List.mem_append_right _ (List.mem_append_right _ (List.mem_append_left _ (List.mem_of_getElem? (l := tables_1_3) (i := 238) rfl))))) rfl), (gw (List.mem_append_right _ (List.mem_append_right _ (List.mem_append_right _ (List.mem_append_left _ (List.mem_of_getElem? (l := tables_1_3) (i := 239) rfl))))) rfl)⟩
set_option maxRecDepth 100000 in
theorem ml_120 : MPr [0, 246, 1, 109, 5, 1, 6] := ⟨"OneAtATime", pm_109, ("OneAtATime$Search", kT6, 3), rfl, rfl, rfl, rfl, (gw (List.mem_append_right _ (List.mem_append_right _ (List.mem_append_right _ (List.mem_append_left _ (List.mem_of_getElem? (l := tables_1_3) (i := 237) rfl))))) rfl), mi_109, mf_109, rfl, Nat.le_of_ble_eq_true rfl⟩
set_option maxRecDepth 100000 in
theorem ml_121 : MPr [7, 26, 1, 49, 2, 1, 0] := ⟨"OneAtATime$Search", pm_49, ("OneAtATime$BitList", kT0, 7), rfl, rfl, rfl, rfl, (gw (List.mem_append_right _ (List.mem_append_right _ (List.mem_append_right _ (List.mem_append_right _ (List.mem_append_left _ (List.mem_of_getElem? (l := tables_1_4) (i := 1) rfl)))))) rfl), mi_49, mf_49, rfl, Nat.le_of_ble_eq_true rfl⟩
set_option maxRecDepth 100000 in
theorem mf_110 : MFr pm_110 1 := ⟨(gw (List.mem_append_right _ (List.mem_append_right _ (List.mem_append_right _ (List.mem_append_right _ (List.mem_append_left _ (List.mem_of_getElem? (l := tables_1_4) (i := 5) rfl)))))) rfl), ini_7, by decide +kernel, by decide +kernel⟩
set_option maxRecDepth 100000 in
theorem mi_110 : Jvm.Cond.instanceMethod pm_110.2.1 ∈ gtb ∧ Jvm.Cond.selects pm_110.2.1.cls pm_110.2.1 pm_110.2.1 ∈ gtb := ⟨(gw (List.mem_append_right _ (List.mem_append_right _ (List.mem_append_right _ (List.mem_append_right _ (List.mem_append_left _ (List.mem_of_getElem? (l := tables_1_4) (i := 4) rfl)))))) rfl), (gw (List.mem_append_left _ (List.mem_of_getElem? (i := 14) rfl)) rfl)⟩
set_option maxRecDepth 100000 in
theorem ml_122 : MPr [7, 30, 1, 110, 2, 0, 6] := ⟨"OneAtATime$Search", pm_110, ("OneAtATime$Search", kT6, 3), rfl, rfl, rfl, rfl, (gw (List.mem_append_right _ (List.mem_append_right _ (List.mem_append_right _ (List.mem_append_right _ (List.mem_append_left _ (List.mem_of_getElem? (l := tables_1_4) (i := 2) rfl)))))) rfl), mi_110, mf_110, rfl, Nat.le_of_ble_eq_true rfl⟩
set_option maxRecDepth 100000 in
theorem ml_123 : MPr [7, 34, 1, 104, 3, 0, 0] := ⟨"OneAtATime$Search", pm_104, ("OneAtATime$BitList", kT0, 7), rfl, rfl, rfl, rfl, (gw (List.mem_append_right _ (List.mem_append_right _ (List.mem_append_right _ (List.mem_append_right _ (List.mem_append_left _ (List.mem_of_getElem? (l := tables_1_4) (i := 7) rfl)))))) rfl), mi_104, mf_104, rfl, Nat.le_of_ble_eq_true rfl⟩
set_option maxRecDepth 100000 in
theorem ml_124 : MPr [7, 38, 1, 48, 1, 1, 0] := ⟨"OneAtATime$Search", pm_48, ("OneAtATime$BitList", kT0, 7), rfl, rfl, rfl, rfl, (gw (List.mem_append_right _ (List.mem_append_right _ (List.mem_append_right _ (List.mem_append_right _ (List.mem_append_left _ (List.mem_of_getElem? (l := tables_1_4) (i := 8) rfl)))))) rfl), mi_48, mf_48, rfl, Nat.le_of_ble_eq_true rfl⟩
set_option maxRecDepth 100000 in
theorem mf_111 : MFr pm_111 2 := ⟨(gw (List.mem_append_right _ (List.mem_append_right _ (List.mem_append_right _ (List.mem_append_right _ (List.mem_append_left _ (List.mem_of_getElem? (l := tables_1_4) (i := 12) rfl)))))) rfl), ini_7, by decide +kernel, by decide +kernel⟩
set_option maxRecDepth 100000 in
theorem mi_111 : Jvm.Cond.static pm_111.2.1 ∈ gtb := (gw (List.mem_append_right _ (List.mem_append_right _ (List.mem_append_right _ (List.mem_append_right _ (List.mem_append_left _ (List.mem_of_getElem? (l := tables_1_4) (i := 11) rfl)))))) rfl)
set_option maxRecDepth 100000 in
theorem ml_125 : MPr [7, 47, 0, 111, 2, 1, 0] := ⟨"OneAtATime$Search", pm_111, rfl, rfl, (gw (List.mem_append_right _ (List.mem_append_right _ (List.mem_append_right _ (List.mem_append_right _ (List.mem_append_left _ (List.mem_of_getElem? (l := tables_1_4) (i := 10) rfl)))))) rfl), mi_111, mf_111, rfl, Nat.le_of_ble_eq_true rfl⟩
set_option maxRecDepth 100000 in
theorem mf_114 : MFr pm_114 2 := ⟨(gw (List.mem_append_right _ (List.mem_append_right _ (List.mem_append_right _ (List.mem_append_right _ (List.mem_append_left _ (List.mem_of_getElem? (l := tables_1_4) (i := 28) rfl)))))) rfl), ini_7, by decide +kernel, by decide +kernel⟩
set_option maxRecDepth 100000 in
theorem mi_114 : Jvm.Cond.instanceMethod pm_114.2.1 ∈ gtb ∧ Jvm.Cond.selects pm_114.2.1.cls pm_114.2.1 pm_114.2.1 ∈ gtb := ⟨(gw (List.mem_append_right _ (List.mem_append_right _ (List.mem_append_right _ (List.mem_append_right _ (List.mem_append_left _ (List.mem_of_getElem? (l := tables_1_4) (i := 27) rfl)))))) rfl), (gw (List.mem_append_left _ (List.mem_of_getElem? (i := 15) rfl)) rfl)⟩
set_option maxRecDepth 100000 in
theorem ml_126 : MPr [7, 51, 1, 114, 3, 1, 6] := ⟨"OneAtATime$Search", pm_114, ("OneAtATime$Search", kT6, 3), rfl, rfl, rfl, rfl, (gw (List.mem_append_right _ (List.mem_append_right _ (List.mem_append_right _ (List.mem_append_right _ (List.mem_append_left _ (List.mem_of_getElem? (l := tables_1_4) (i := 25) rfl)))))) rfl), mi_114, mf_114, rfl, Nat.le_of_ble_eq_true rfl⟩
set_option maxRecDepth 100000 in
theorem mf_112 : MFr pm_112 0 := ⟨(gw (List.mem_append_right _ (List.mem_append_right _ (List.mem_append_right _ (List.mem_append_right _ (List.mem_append_left _ (List.mem_of_getElem? (l := tables_1_4) (i := 16) rfl)))))) rfl), ini_1, by decide +kernel, by decide +kernel⟩
set_option maxRecDepth 100000 in
theorem mi_112 : Jvm.Cond.instanceMethod pm_112.2.1 ∈ gtb ∧ Jvm.Cond.selects pm_112.2.1.cls pm_112.2.1 pm_112.2.1 ∈ gtb := ⟨(gw (List.mem_append_right _ (List.mem_append_right _ (List.mem_append_right _ (List.mem_append_right _ (List.mem_append_left _ (List.mem_of_getElem? (l := tables_1_4) (i := 14) rfl)))))) rfl), (gw (List.mem_append_right _ (List.mem_append_right _ (List.mem_append_right _ (List.mem_append_right _ (List.mem_append_left _ (List.mem_of_getElem? (l := tables_1_4) (i := 15) rfl)))))) rfl)⟩
set_option maxRecDepth 100000 in
theorem ml_127 : MPr [7, 55, 1, 112, 1, 1, 0] := ⟨"OneAtATime$Search", pm_112, ("OneAtATime$BitList", kT0, 7), rfl, rfl, rfl, rfl, (gw (List.mem_append_right _ (List.mem_append_right _ (List.mem_append_right _ (List.mem_append_right _ (List.mem_append_left _ (List.mem_of_getElem? (l := tables_1_4) (i := 13) rfl)))))) rfl), mi_112, mf_112, rfl, Nat.le_of_ble_eq_true rfl⟩
set_option maxRecDepth 100000 in
theorem mf_113 : MFr pm_113 0 := ⟨(gw (List.mem_append_right _ (List.mem_append_right _ (List.mem_append_right _ (List.mem_append_right _ (List.mem_append_left _ (List.mem_of_getElem? (l := tables_1_4) (i := 24) rfl)))))) rfl), ini_1, by decide +kernel, by decide +kernel⟩
set_option maxRecDepth 100000 in
theorem mi_113 : Jvm.Cond.instanceMethod pm_113.2.1 ∈ gtb ∧ Jvm.Cond.selects pm_113.2.1.cls pm_113.2.1 pm_113.2.1 ∈ gtb := ⟨(gw (List.mem_append_right _ (List.mem_append_right _ (List.mem_append_right _ (List.mem_append_right _ (List.mem_append_left _ (List.mem_of_getElem? (l := tables_1_4) (i := 22) rfl)))))) rfl), (gw (List.mem_append_right _ (List.mem_append_right _ (List.mem_append_right _ (List.mem_append_right _ (List.mem_append_left _ (List.mem_of_getElem? (l := tables_1_4) (i := 23) rfl)))))) rfl)⟩
set_option maxRecDepth 100000 in
theorem ml_128 : MPr [7, 58, 1, 113, 1, 0, 0] := ⟨"OneAtATime$Search", pm_113, ("OneAtATime$BitList", kT0, 7), rfl, rfl, rfl, rfl, (gw (List.mem_append_right _ (List.mem_append_right _ (List.mem_append_right _ (List.mem_append_right _ (List.mem_append_left _ (List.mem_of_getElem? (l := tables_1_4) (i := 21) rfl)))))) rfl), mi_113, mf_113, rfl, Nat.le_of_ble_eq_true rfl⟩
set_option maxRecDepth 100000 in
theorem mf_116 : MFr pm_116 2 := ⟨(gw (List.mem_append_right _ (List.mem_append_right _ (List.mem_append_right _ (List.mem_append_right _ (List.mem_append_left _ (List.mem_of_getElem? (l := tables_1_4) (i := 37) rfl)))))) rfl), ini_7, by decide +kernel, by decide +kernel⟩
set_option maxRecDepth 100000 in
theorem mi_116 : Jvm.Cond.instanceMethod pm_116.2.1 ∈ gtb ∧ Jvm.Cond.selects pm_116.2.1.cls pm_116.2.1 pm_116.2.1 ∈ gtb := ⟨(gw (List.mem_append_right _ (List.mem_append_right _ (List.mem_append_right _ (List.mem_append_right _ (List.mem_append_left _ (List.mem_of_getElem? (l := tables_1_4) (i := 36) rfl)))))) rfl), (gw (List.mem_append_left _ (List.mem_of_getElem? (i := 17) rfl)) rfl)⟩
set_option maxRecDepth 100000 in
theorem ml_129 : MPr [7, 61, 1, 116, 3, 0, 6] := ⟨"OneAtATime$Search", pm_116, ("OneAtATime$Search", kT6, 3), rfl, rfl, rfl, rfl, (gw (List.mem_append_right _ (List.mem_append_right _ (List.mem_append_right _ (List.mem_append_right _ (List.mem_append_left _ (List.mem_of_getElem? (l := tables_1_4) (i := 34) rfl)))))) rfl), mi_116, mf_116, rfl, Nat.le_of_ble_eq_true rfl⟩
set_option maxRecDepth 100000 in
theorem ml_130 : MPr [7, 64, 1, 47, 1, 1, 0] := ⟨"OneAtATime$Search", pm_47, ("OneAtATime$BitList", kT0, 7), rfl, rfl, rfl, rfl, (gw (List.mem_append_right _ (List.mem_append_right _ (List.mem_append_right _ (List.mem_append_right _ (List.mem_append_left _ (List.mem_of_getElem? (l := tables_1_4) (i := 6) rfl)))))) rfl), mi_47, mf_47, rfl, Nat.le_of_ble_eq_true rfl⟩
set_option maxRecDepth 100000 in
theorem ml_131 : MPr [7, 67, 0, 50, 1, 1, 0] := ⟨"OneAtATime$Search", pm_50, rfl, rfl, (gw (List.mem_append_right _ (List.mem_append_right _ (List.mem_append_right _ (List.mem_append_right _ (List.mem_append_left _ (List.mem_of_getElem? (l := tables_1_4) (i := 17) rfl)))))) rfl), mi_50, mf_50, rfl, Nat.le_of_ble_eq_true rfl⟩
set_option maxRecDepth 100000 in
theorem ml_132 : MPr [7, 73, 0, 101, 1, 1, 0] := ⟨"OneAtATime$Search", pm_101, rfl, rfl, (gw (List.mem_append_right _ (List.mem_append_right _ (List.mem_append_right _ (List.mem_append_right _ (List.mem_append_left _ (List.mem_of_getElem? (l := tables_1_4) (i := 18) rfl)))))) rfl), mi_101, mf_101, rfl, Nat.le_of_ble_eq_true rfl⟩
set_option maxRecDepth 100000 in
theorem ml_133 : MPr [7, 76, 1, 31, 2, 0, 0] := ⟨"OneAtATime$Search", pm_31, ("OneAtATime$BitList", kT0, 7), rfl, rfl, rfl, rfl, (gw (List.mem_append_right _ (List.mem_append_right _ (List.mem_append_right _ (List.mem_append_right _ (List.mem_append_left _ (List.mem_of_getElem? (l := tables_1_4) (i := 19) rfl)))))) rfl), mi_31, mf_31, rfl, Nat.le_of_ble_eq_true rfl⟩
set_option maxRecDepth 100000 in
theorem ml_134 : MPr [7, 80, 0, 60, 1, 1, 0] := ⟨"OneAtATime$Search", pm_60, rfl, rfl, (gw (List.mem_append_right _ (List.mem_append_right _ (List.mem_append_right _ (List.mem_append_right _ (List.mem_append_left _ (List.mem_of_getElem? (l := tables_1_4) (i := 20) rfl)))))) rfl), mi_60, mf_60, rfl, Nat.le_of_ble_eq_true rfl⟩
set_option maxRecDepth 100000 in
theorem mf_115 : MFr pm_115 2 := ⟨(gw (List.mem_append_right _ (List.mem_append_right _ (List.mem_append_right _ (List.mem_append_right _ (List.mem_append_left _ (List.mem_of_getElem? (l := tables_1_4) (i := 32) rfl)))))) rfl), ini_7, by decide +kernel, by decide +kernel⟩
set_option maxRecDepth 100000 in
theorem mi_115 : Jvm.Cond.instanceMethod pm_115.2.1 ∈ gtb ∧ Jvm.Cond.selects pm_115.2.1.cls pm_115.2.1 pm_115.2.1 ∈ gtb := ⟨(gw (List.mem_append_right _ (List.mem_append_right _ (List.mem_append_right _ (List.mem_append_right _ (List.mem_append_left _ (List.mem_of_getElem? (l := tables_1_4) (i := 31) rfl)))))) rfl), (gw (List.mem_append_left _ (List.mem_of_getElem? (i := 16) rfl)) rfl)⟩
set_option maxRecDepth 100000 in
theorem ml_135 : MPr [7, 89, 1, 115, 3, 1, 6] := ⟨"OneAtATime$Search", pm_115, ("OneAtATime$Search", kT6, 3), rfl, rfl, rfl, rfl, (gw (List.mem_append_right _ (List.mem_append_right _ (List.mem_append_right _ (List.mem_append_right _ (List.mem_append_left _ (List.mem_of_getElem? (l := tables_1_4) (i := 29) rfl)))))) rfl), mi_115, mf_115, rfl, Nat.le_of_ble_eq_true rfl⟩
set_option maxRecDepth 100000 in
theorem ml_136 : MPr [7, 92, 0, 1005, 2, 1, 0] := ⟨"OneAtATime$Search", rfl, (gw (List.mem_append_right _ (List.mem_append_right _ (List.mem_append_right _ (List.mem_append_right _ (List.mem_append_left _ (List.mem_of_getElem? (l := tables_1_4) (i := 33) rfl)))))) rfl), mw_1005⟩
set_option maxRecDepth 100000 in
theorem ml_137 : MPr [7, 98, 1, 56, 2, 1, 0] := ⟨"OneAtATime$Search", pm_56, ("OneAtATime$BitList", kT0, 7), rfl, rfl, rfl, rfl, (gw (List.mem_append_right _ (List.mem_append_right _ (List.mem_append_right _ (List.mem_append_right _ (List.mem_append_left _ (List.mem_of_getElem? (l := tables_1_4) (i := 38) rfl)))))) rfl), mi_56, mf_56, rfl, Nat.le_of_ble_eq_true rfl⟩
set_option maxRecDepth 100000 in
theorem ml_138 : MPr [7, 101, 0, 1004, 2, 1, 0] := ⟨"OneAtATime$Search", rfl, (gw (List.mem_append_right _ (List.mem_append_right _ (List.mem_append_right _ (List.mem_append_right _ (List.mem_append_left _ (List.mem_of_getElem? (l := tables_1_4) (i := 39) rfl)))))) rfl), mw_1004⟩
set_option maxRecDepth 100000 in
theorem mf_118 : MFr pm_118 2 := ⟨(gw (List.mem_append_right _ (List.mem_append_right _ (List.mem_append_right _ (List.mem_append_right _ (List.mem_append_left _ (List.mem_of_getElem? (l := tables_1_4) (i := 46) rfl)))))) rfl), ini_12, by decide +kernel, by decide +kernel⟩
set_option maxRecDepth 100000 in
theorem mi_118 : Jvm.Cond.static pm_118.2.1 ∈ gtb := (gw (List.mem_append_right _ (List.mem_append_right _ (List.mem_append_right _ (List.mem_append_right _ (List.mem_append_left _ (List.mem_of_getElem? (l := tables_1_4) (i := 45) rfl)))))) rfl)
set_option maxRecDepth 100000 in
theorem ml_139 : MPr [0, 250, 0, 118, 2, 1, 0] := ⟨"OneAtATime", pm_118, rfl, rfl, (gw (List.mem_append_right _ (List.mem_append_right _ (List.mem_append_right _ (List.mem_append_right _ (List.mem_append_left _ (List.mem_of_getElem? (l := tables_1_4) (i := 44) rfl)))))) rfl), mi_118, mf_118, rfl, Nat.le_of_ble_eq_true rfl⟩
set_option maxRecDepth 100000 in
theorem mf_120 : MFr pm_120 1 := ⟨(gw (List.mem_append_right _ (List.mem_append_right _ (List.mem_append_right _ (List.mem_append_right _ (List.mem_append_left _ (List.mem_of_getElem? (l := tables_1_4) (i := 57) rfl)))))) rfl), ini_0, by decide +kernel, by decide +kernel⟩
set_option maxRecDepth 100000 in
theorem mi_120 : Jvm.Cond.instanceMethod pm_120.2.1 ∈ gtb ∧ Jvm.Cond.selects pm_120.2.1.cls pm_120.2.1 pm_120.2.1 ∈ gtb := ⟨(gw (List.mem_append_right _ (List.mem_append_right _ (List.mem_append_right _ (List.mem_append_right _ (List.mem_append_left _ (List.mem_of_getElem? (l := tables_1_4) (i := 56) rfl)))))) rfl), (gw (List.mem_append_left _ (List.mem_of_getElem? (i := 18) rfl)) rfl)⟩
set_option maxRecDepth 100000 in
theorem ml_140 : MPr [0, 254, 1, 120, 2, 1, 8] := ⟨"OneAtATime", pm_120, ("OneAtATime", kT8, 9), rfl, rfl, rfl, rfl, (gw (List.mem_append_right _ (List.mem_append_right _ (List.mem_append_right _ (List.mem_append_right _ (List.mem_append_left _ (List.mem_of_getElem? (l := tables_1_4) (i := 54) rfl)))))) rfl), mi_120, mf_120, rfl, Nat.le_of_ble_eq_true rfl⟩
set_option maxRecDepth 100000 in
theorem mf_121 : MFr pm_121 3 := ⟨(gw (List.mem_append_right _ (List.mem_append_right _ (List.mem_append_right _ (List.mem_append_right _ (List.mem_append_left _ (List.mem_of_getElem? (l := tables_1_4) (i := 60) rfl)))))) rfl), ini_12, by decide +kernel, by decide +kernel⟩
set_option maxRecDepth 100000 in
theorem mi_121 : Jvm.Cond.static pm_121.2.1 ∈ gtb := (gw (List.mem_append_right _ (List.mem_append_right _ (List.mem_append_right _ (List.mem_append_right _ (List.mem_append_left _ (List.mem_of_getElem? (l := tables_1_4) (i := 59) rfl)))))) rfl)
set_option maxRecDepth 100000 in
theorem ml_141 : MPr [0, 257, 0, 121, 3, 0, 0] := ⟨"OneAtATime", pm_121, rfl, rfl, (gw (List.mem_append_right _ (List.mem_append_right _ (List.mem_append_right _ (List.mem_append_right _ (List.mem_append_left _ (List.mem_of_getElem? (l := tables_1_4) (i := 58) rfl)))))) rfl), mi_121, mf_121, rfl, Nat.le_of_ble_eq_true rfl⟩
set_option maxRecDepth 100000 in
theorem ml_142 : MPr [12, 46, 0, 1004, 2, 1, 0] := ⟨"OneAtATime$Maker", rfl, (gw (List.mem_append_right _ (List.mem_append_right _ (List.mem_append_right _ (List.mem_append_right _ (List.mem_append_left _ (List.mem_of_getElem? (l := tables_1_4) (i := 47) rfl)))))) rfl), mw_1004⟩
set_option maxRecDepth 100000 in
theorem mf_119 : MFr pm_119 1 := ⟨(gw (List.mem_append_right _ (List.mem_append_right _ (List.mem_append_right _ (List.mem_append_right _ (List.mem_append_left _ (List.mem_of_getElem? (l := tables_1_4) (i := 50) rfl)))))) rfl), ini_13, by decide +kernel, by decide +kernel⟩
set_option maxRecDepth 100000 in
theorem mi_119 : Jvm.Cond.static pm_119.2.1 ∈ gtb := (gw (List.mem_append_right _ (List.mem_append_right _ (List.mem_append_right _ (List.mem_append_right _ (List.mem_append_left _ (List.mem_of_getElem? (l := tables_1_4) (i := 49) rfl)))))) rfl)
set_option maxRecDepth 100000 in
theorem ml_143 : MPr [12, 52, 0, 119, 1, 1, 0] := ⟨"OneAtATime$Maker", pm_119, rfl, rfl, (gw (List.mem_append_right _ (List.mem_append_right _ (List.mem_append_right _ (List.mem_append_right _ (List.mem_append_left _ (List.mem_of_getElem? (l := tables_1_4) (i := 48) rfl)))))) rfl), mi_119, mf_119, rfl, Nat.le_of_ble_eq_true rfl⟩
set_option maxRecDepth 100000 in
theorem ml_144 : MPr [12, 58, 1, 28, 5, 0, 0] := ⟨"OneAtATime$Maker", pm_28, ("OneAtATime$BitList", kT0, 7), rfl, rfl, rfl, rfl, (gw (List.mem_append_right _ (List.mem_append_right _ (List.mem_append_right _ (List.mem_append_right _ (List.mem_append_left _ (List.mem_of_getElem? (l := tables_1_4) (i := 61) rfl)))))) rfl), mi_28, mf_28, rfl, Nat.le_of_ble_eq_true rfl⟩
set_option maxRecDepth 100000 in
theorem mf_122 : MFr pm_122 2 := ⟨(gw (List.mem_append_right _ (List.mem_append_right _ (List.mem_append_right _ (List.mem_append_right _ (List.mem_append_left _ (List.mem_of_getElem? (l := tables_1_4) (i := 64) rfl)))))) rfl), ini_12, by decide +kernel, by decide +kernel⟩
set_option maxRecDepth 100000 in
theorem mi_122 : Jvm.Cond.static pm_122.2.1 ∈ gtb := (gw (List.mem_append_right _ (List.mem_append_right _ (List.mem_append_right _ (List.mem_append_right _ (List.mem_append_left _ (List.mem_of_getElem? (l := tables_1_4) (i := 63) rfl)))))) rfl)
set_option maxRecDepth 100000 in
theorem ml_145 : MPr [12, 62, 0, 122, 2, 1, 0] := ⟨"OneAtATime$Maker", pm_122, rfl, rfl, (gw (List.mem_append_right _ (List.mem_append_right _ (List.mem_append_right _ (List.mem_append_right _ (List.mem_append_left _ (List.mem_of_getElem? (l := tables_1_4) (i := 62) rfl)))))) rfl), mi_122, mf_122, rfl, Nat.le_of_ble_eq_true rfl⟩
set_option maxRecDepth 100000 in
theorem mf_123 : MFr pm_123 3 := ⟨(gw (List.mem_append_right _ (List.mem_append_right _ (List.mem_append_right _ (List.mem_append_right _ (List.mem_append_left _ (List.mem_of_getElem? (l := tables_1_4) (i := 68) rfl)))))) rfl), ini_1, by decide +kernel, by decide +kernel⟩
set_option maxRecDepth 100000 in
theorem mi_123 : Jvm.Cond.instanceMethod pm_123.2.1 ∈ gtb ∧ Jvm.Cond.selects pm_123.2.1.cls pm_123.2.1 pm_123.2.1 ∈ gtb := ⟨(gw (List.mem_append_right _ (List.mem_append_right _ (List.mem_append_right _ (List.mem_append_right _ (List.mem_append_left _ (List.mem_of_getElem? (l := tables_1_4) (i := 66) rfl)))))) rfl), (gw (List.mem_append_right _ (List.mem_append_right _ (List.mem_append_right _ (List.mem_append_right _ (List.mem_append_left _ (List.mem_of_getElem? (l := tables_1_4) (i := 67) rfl)))))) rfl)⟩
set_option maxRecDepth 100000 in
theorem ml_146 : MPr [12, 68, 1, 123, 4, 0, 0] := ⟨"OneAtATime$Maker", pm_123, ("OneAtATime$BitList", kT0, 7), rfl, rfl, rfl, rfl, (gw (List.mem_append_right _ (List.mem_append_right _ (List.mem_append_right _ (List.mem_append_right _ (List.mem_append_left _ (List.mem_of_getElem? (l := tables_1_4) (i := 65) rfl)))))) rfl), mi_123, mf_123, rfl, Nat.le_of_ble_eq_true rfl⟩
set_option maxRecDepth 100000 in
theorem mf_125 : MFr pm_125 1 := ⟨(gw (List.mem_append_right _ (List.mem_append_right _ (List.mem_append_right _ (List.mem_append_right _ (List.mem_append_left _ (List.mem_of_getElem? (l := tables_1_4) (i := 76) rfl)))))) rfl), ini_6, by decide +kernel, by decide +kernel⟩
set_option maxRecDepth 100000 in
theorem mi_125 : Jvm.Cond.instanceMethod pm_125.2.1 ∈ gtb ∧ Jvm.Cond.selects pm_125.2.1.cls pm_125.2.1 pm_125.2.1 ∈ gtb := ⟨(gw (List.mem_append_right _ (List.mem_append_right _ (List.mem_append_right _ (List.mem_append_right _ (List.mem_append_left _ (List.mem_of_getElem? (l := tables_1_4) (i := 74) rfl)))))) rfl), (gw (List.mem_append_right _ (List.mem_append_right _ (List.mem_append_right _ (List.mem_append_right _ (List.mem_append_left _ (List.mem_of_getElem? (l := tables_1_4) (i := 75) rfl)))))) rfl)⟩
set_option maxRecDepth 100000 in
theorem ml_147 : MPr [0, 261, 1, 125, 2, 1, 7] := ⟨"OneAtATime", pm_125, ("OneAtATime$Survey", kT7, 5), rfl, rfl, rfl, rfl, (gw (List.mem_append_right _ (List.mem_append_right _ (List.mem_append_right _ (List.mem_append_right _ (List.mem_append_left _ (List.mem_of_getElem? (l := tables_1_4) (i := 73) rfl)))))) rfl), mi_125, mf_125, rfl, Nat.le_of_ble_eq_true rfl⟩
set_option maxRecDepth 100000 in
theorem ml_148 : MPr [6, 126, 1, 112, 1, 1, 0] := ⟨"OneAtATime$Survey", pm_112, ("OneAtATime$BitList", kT0, 7), rfl, rfl, rfl, rfl, (gw (List.mem_append_right _ (List.mem_append_right _ (List.mem_append_right _ (List.mem_append_right _ (List.mem_append_left _ (List.mem_of_getElem? (l := tables_1_4) (i := 77) rfl)))))) rfl), mi_112, mf_112, rfl, Nat.le_of_ble_eq_true rfl⟩
set_option maxRecDepth 100000 in
theorem mf_127 : MFr pm_127 3 := ⟨(gw (List.mem_append_right _ (List.mem_append_right _ (List.mem_append_right _ (List.mem_append_right _ (List.mem_append_left _ (List.mem_of_getElem? (l := tables_1_4) (i := 85) rfl)))))) rfl), ini_6, by decide +kernel, by decide +kernel⟩
set_option maxRecDepth 100000 in
theorem mi_127 : Jvm.Cond.instanceMethod pm_127.2.1 ∈ gtb ∧ Jvm.Cond.selects pm_127.2.1.cls pm_127.2.1 pm_127.2.1 ∈ gtb := ⟨(gw (List.mem_append_right _ (List.mem_append_right _ (List.mem_append_right _ (List.mem_append_right _ (List.mem_append_left _ (List.mem_of_getElem? (l := tables_1_4) (i := 83) rfl)))))) rfl), (gw (List.mem_append_right _ (List.mem_append_right _ (List.mem_append_right _ (List.mem_append_right _ (List.mem_append_left _ (List.mem_of_getElem? (l := tables_1_4) (i := 84) rfl)))))) rfl)⟩
set_option maxRecDepth 100000 in
theorem ml_149 : MPr [0, 264, 1, 127, 4, 1, 7] := ⟨"OneAtATime", pm_127, ("OneAtATime$Survey", kT7, 5), rfl, rfl, rfl, rfl, (gw (List.mem_append_right _ (List.mem_append_right _ (List.mem_append_right _ (List.mem_append_right _ (List.mem_append_left _ (List.mem_of_getElem? (l := tables_1_4) (i := 82) rfl)))))) rfl), mi_127, mf_127, rfl, Nat.le_of_ble_eq_true rfl⟩
set_option maxRecDepth 100000 in
theorem mf_129 : MFr pm_129 1 := ⟨(gw (List.mem_append_right _ (List.mem_append_right _ (List.mem_append_right _ (List.mem_append_right _ (List.mem_append_left _ (List.mem_of_getElem? (l := tables_1_4) (i := 96) rfl)))))) rfl), ini_9, by decide +kernel, by decide +kernel⟩
set_option maxRecDepth 100000 in
theorem mi_129 : Jvm.Cond.instanceMethod pm_129.2.1 ∈ gtb ∧ Jvm.Cond.selects pm_129.2.1.cls pm_129.2.1 pm_129.2.1 ∈ gtb := ⟨(gw (List.mem_append_right _ (List.mem_append_right _ (List.mem_append_right _ (List.mem_append_right _ (List.mem_append_left _ (List.mem_of_getElem? (l := tables_1_4) (i := 94) rfl)))))) rfl), (gw (List.mem_append_right _ (List.mem_append_right _ (List.mem_append_right _ (List.mem_append_right _ (List.mem_append_left _ (List.mem_of_getElem? (l := tables_1_4) (i := 95) rfl)))))) rfl)⟩
set_option maxRecDepth 100000 in
theorem ml_150 : MPr [0, 273, 1, 129, 2, 0, 2] := ⟨"OneAtATime", pm_129, ("OneAtATime$Evenness", kT2, 5), rfl, rfl, rfl, rfl, (gw (List.mem_append_right _ (List.mem_append_right _ (List.mem_append_right _ (List.mem_append_right _ (List.mem_append_left _ (List.mem_of_getElem? (l := tables_1_4) (i := 93) rfl)))))) rfl), mi_129, mf_129, rfl, Nat.le_of_ble_eq_true rfl⟩
set_option maxRecDepth 100000 in
theorem mf_130 : MFr pm_130 1 := ⟨(gw (List.mem_append_right _ (List.mem_append_right _ (List.mem_append_right _ (List.mem_append_right _ (List.mem_append_left _ (List.mem_of_getElem? (l := tables_1_4) (i := 100) rfl)))))) rfl), ini_9, by decide +kernel, by decide +kernel⟩
set_option maxRecDepth 100000 in
theorem mi_130 : Jvm.Cond.instanceMethod pm_130.2.1 ∈ gtb ∧ Jvm.Cond.selects pm_130.2.1.cls pm_130.2.1 pm_130.2.1 ∈ gtb := ⟨(gw (List.mem_append_right _ (List.mem_append_right _ (List.mem_append_right _ (List.mem_append_right _ (List.mem_append_left _ (List.mem_of_getElem? (l := tables_1_4) (i := 99) rfl)))))) rfl), (gw (List.mem_append_left _ (List.mem_of_getElem? (i := 19) rfl)) rfl)⟩
set_option maxRecDepth 100000 in
theorem ml_151 : MPr [9, 29, 1, 130, 2, 0, 2] := ⟨"OneAtATime$Evenness", pm_130, ("OneAtATime$Evenness", kT2, 5), rfl, rfl, rfl, rfl, (gw (List.mem_append_right _ (List.mem_append_right _ (List.mem_append_right _ (List.mem_append_right _ (List.mem_append_left _ (List.mem_of_getElem? (l := tables_1_4) (i := 97) rfl)))))) rfl), mi_130, mf_130, rfl, Nat.le_of_ble_eq_true rfl⟩
set_option maxRecDepth 100000 in
theorem mf_131 : MFr pm_131 1 := ⟨(gw (List.mem_append_right _ (List.mem_append_right _ (List.mem_append_right _ (List.mem_append_right _ (List.mem_append_left _ (List.mem_of_getElem? (l := tables_1_4) (i := 106) rfl)))))) rfl), ini_9, by decide +kernel, by decide +kernel⟩
set_option maxRecDepth 100000 in
theorem mi_131 : Jvm.Cond.instanceMethod pm_131.2.1 ∈ gtb ∧ Jvm.Cond.selects pm_131.2.1.cls pm_131.2.1 pm_131.2.1 ∈ gtb := ⟨(gw (List.mem_append_right _ (List.mem_append_right _ (List.mem_append_right _ (List.mem_append_right _ (List.mem_append_left _ (List.mem_of_getElem? (l := tables_1_4) (i := 105) rfl)))))) rfl), (gw (List.mem_append_left _ (List.mem_of_getElem? (i := 20) rfl)) rfl)⟩
set_option maxRecDepth 100000 in
theorem ml_152 : MPr [9, 34, 1, 131, 2, 0, 2] := ⟨"OneAtATime$Evenness", pm_131, ("OneAtATime$Evenness", kT2, 5), rfl, rfl, rfl, rfl, (gw (List.mem_append_right _ (List.mem_append_right _ (List.mem_append_right _ (List.mem_append_right _ (List.mem_append_left _ (List.mem_of_getElem? (l := tables_1_4) (i := 103) rfl)))))) rfl), mi_131, mf_131, rfl, Nat.le_of_ble_eq_true rfl⟩
set_option maxRecDepth 100000 in
theorem mf_134 : MFr pm_134 1 := ⟨(gw (List.mem_append_right _ (List.mem_append_right _ (List.mem_append_right _ (List.mem_append_right _ (List.mem_append_left _ (List.mem_of_getElem? (l := tables_1_4) (i := 120) rfl)))))) rfl), ini_9, by decide +kernel, by decide +kernel⟩
set_option maxRecDepth 100000 in
theorem mi_134 : Jvm.Cond.instanceMethod pm_134.2.1 ∈ gtb ∧ Jvm.Cond.selects pm_134.2.1.cls pm_134.2.1 pm_134.2.1 ∈ gtb := ⟨(gw (List.mem_append_right _ (List.mem_append_right _ (List.mem_append_right _ (List.mem_append_right _ (List.mem_append_left _ (List.mem_of_getElem? (l := tables_1_4) (i := 119) rfl)))))) rfl), (gw (List.mem_append_left _ (List.mem_of_getElem? (i := 22) rfl)) rfl)⟩
set_option maxRecDepth 100000 in
theorem ml_153 : MPr [9, 42, 1, 134, 2, 1, 2] := ⟨"OneAtATime$Evenness", pm_134, ("OneAtATime$Evenness", kT2, 5), rfl, rfl, rfl, rfl, (gw (List.mem_append_right _ (List.mem_append_right _ (List.mem_append_right _ (List.mem_append_right _ (List.mem_append_left _ (List.mem_of_getElem? (l := tables_1_4) (i := 117) rfl)))))) rfl), mi_134, mf_134, rfl, Nat.le_of_ble_eq_true rfl⟩
set_option maxRecDepth 100000 in
theorem ml_154 : MPr [9, 46, 0, 46, 2, 0, 0] := ⟨"OneAtATime$Evenness", pm_46, rfl, rfl, (gw (List.mem_append_right _ (List.mem_append_right _ (List.mem_append_right _ (List.mem_append_right _ (List.mem_append_left _ (List.mem_of_getElem? (l := tables_1_4) (i := 101) rfl)))))) rfl), mi_46, mf_46, rfl, Nat.le_of_ble_eq_true rfl⟩
set_option maxRecDepth 100000 in
theorem ml_155 : MPr [9, 58, 0, 1004, 2, 1, 0] := ⟨"OneAtATime$Evenness", rfl, (gw (List.mem_append_right _ (List.mem_append_right _ (List.mem_append_right _ (List.mem_append_right _ (List.mem_append_left _ (List.mem_of_getElem? (l := tables_1_4) (i := 107) rfl)))))) rfl), mw_1004⟩
set_option maxRecDepth 100000 in
theorem ml_156 : MPr [9, 64, 0, 1005, 2, 1, 0] := ⟨"OneAtATime$Evenness", rfl, (gw (List.mem_append_right _ (List.mem_append_right _ (List.mem_append_right _ (List.mem_append_right _ (List.mem_append_left _ (List.mem_of_getElem? (l := tables_1_4) (i := 108) rfl)))))) rfl), mw_1005⟩
set_option maxRecDepth 100000 in
theorem mf_132 : MFr pm_132 1 := ⟨(gw (List.mem_append_right _ (List.mem_append_right _ (List.mem_append_right _ (List.mem_append_right _ (List.mem_append_left _ (List.mem_of_getElem? (l := tables_1_4) (i := 112) rfl)))))) rfl), ini_9, by decide +kernel, by decide +kernel⟩
set_option maxRecDepth 100000 in
theorem mi_132 : Jvm.Cond.instanceMethod pm_132.2.1 ∈ gtb ∧ Jvm.Cond.selects pm_132.2.1.cls pm_132.2.1 pm_132.2.1 ∈ gtb := ⟨(gw (List.mem_append_right _ (List.mem_append_right _ (List.mem_append_right _ (List.mem_append_right _ (List.mem_append_left _ (List.mem_of_getElem? (l := tables_1_4) (i := 111) rfl)))))) rfl), (gw (List.mem_append_left _ (List.mem_of_getElem? (i := 21) rfl)) rfl)⟩
set_option maxRecDepth 100000 in
theorem ml_157 : MPr [9, 67, 1, 132, 2, 3, 2] := ⟨"OneAtATime$Evenness", pm_132, ("OneAtATime$Evenness", kT2, 5), rfl, rfl, rfl, rfl, (gw (List.mem_append_right _ (List.mem_append_right _ (List.mem_append_right _ (List.mem_append_right _ (List.mem_append_left _ (List.mem_of_getElem? (l := tables_1_4) (i := 109) rfl)))))) rfl), mi_132, mf_132, rfl, Nat.le_of_ble_eq_true rfl⟩
set_option maxRecDepth 100000 in
theorem ml_158 : MPr [9, 71, 0, 1007, 2, 3, 0] := ⟨"OneAtATime$Evenness", rfl, (gw (List.mem_append_right _ (List.mem_append_right _ (List.mem_append_right _ (List.mem_append_right _ (List.mem_append_left _ (List.mem_of_getElem? (l := tables_1_4) (i := 114) rfl)))))) rfl), mw_1007⟩
set_option maxRecDepth 100000 in
theorem ml_159 : MPr [9, 74, 0, 1002, 5, 0, 0] := ⟨"OneAtATime$Evenness", rfl, (gw (List.mem_append_right _ (List.mem_append_right _ (List.mem_append_right _ (List.mem_append_right _ (List.mem_append_left _ (List.mem_of_getElem? (l := tables_1_4) (i := 113) rfl)))))) rfl), (gw (List.mem_append_right _ (List.mem_append_right _ (List.mem_append_left _ (List.mem_of_getElem? (l := tables_1_2) (i := 179) rfl)))) rfl), (gw (List.mem_append_right _ (List.mem_append_right _ (List.mem_append_left _ (List.mem_of_getElem? (l := tables_1_2) (i := 178) rfl)))) rfl), ini_16⟩
set_option maxRecDepth 100000 in
theorem mf_136 : MFr pm_136 2 := ⟨(gw (List.mem_append_right _ (List.mem_append_right _ (List.mem_append_right _ (List.mem_append_right _ (List.mem_append_left _ (List.mem_of_getElem? (l := tables_1_4) (i := 127) rfl)))))) rfl), ini_0, by decide +kernel, by decide +kernel⟩
set_option maxRecDepth 100000 in
theorem mi_136 : Jvm.Cond.static pm_136.2.1 ∈ gtb := (gw (List.mem_append_right _ (List.mem_append_right _ (List.mem_append_right _ (List.mem_append_right _ (List.mem_append_left _ (List.mem_of_getElem? (l := tables_1_4) (i := 126) rfl)))))) rfl)
set_option maxRecDepth 100000 in
theorem ml_160 : MPr [0, 284, 0, 136, 2, 1, 0] := ⟨"OneAtATime", pm_136, rfl, rfl, (gw (List.mem_append_right _ (List.mem_append_right _ (List.mem_append_right _ (List.mem_append_right _ (List.mem_append_left _ (List.mem_of_getElem? (l := tables_1_4) (i := 125) rfl)))))) rfl), mi_136, mf_136, rfl, Nat.le_of_ble_eq_true rfl⟩
set_option maxRecDepth 100000 in
theorem mf_137 : MFr pm_137 5 := ⟨(gw (List.mem_append_right _ (List.mem_append_right _ (List.mem_append_right _ (List.mem_append_right _ (List.mem_append_left _ (List.mem_of_getElem? (l := tables_1_4) (i := 131) rfl)))))) rfl), ini_7, by decide +kernel, by decide +kernel⟩
set_option maxRecDepth 100000 in
theorem mi_137 : Jvm.Cond.instanceMethod pm_137.2.1 ∈ gtb ∧ Jvm.Cond.selects pm_137.2.1.cls pm_137.2.1 pm_137.2.1 ∈ gtb := ⟨(gw (List.mem_append_right _ (List.mem_append_right _ (List.mem_append_right _ (List.mem_append_right _ (List.mem_append_left _ (List.mem_of_getElem? (l := tables_1_4) (i := 129) rfl)))))) rfl), (gw (List.mem_append_right _ (List.mem_append_right _ (List.mem_append_right _ (List.mem_append_right _ (List.mem_append_left _ (List.mem_of_getElem? (l := tables_1_4) (i := 130) rfl)))))) rfl)⟩
set_option maxRecDepth 100000 in
theorem ml_161 : MPr [0, 288, 1, 137, 6, 1, 6] := ⟨"OneAtATime", pm_137, ("OneAtATime$Search", kT6, 3), rfl, rfl, rfl, rfl, (gw (List.mem_append_right _ (List.mem_append_right _ (List.mem_append_right _ (List.mem_append_right _ (List.mem_append_left _ (List.mem_of_getElem? (l := tables_1_4) (i := 128) rfl)))))) rfl), mi_137, mf_137, rfl, Nat.le_of_ble_eq_true rfl⟩
set_option maxRecDepth 100000 in
theorem mf_142 : MFr pm_142 3 := ⟨(gw (List.mem_append_right _ (List.mem_append_right _ (List.mem_append_right _ (List.mem_append_right _ (List.mem_append_left _ (List.mem_of_getElem? (l := tables_1_4) (i := 148) rfl)))))) rfl), ini_12, by decide +kernel, by decide +kernel⟩
set_option maxRecDepth 100000 in
theorem mi_142 : Jvm.Cond.static pm_142.2.1 ∈ gtb := (gw (List.mem_append_right _ (List.mem_append_right _ (List.mem_append_right _ (List.mem_append_right _ (List.mem_append_left _ (List.mem_of_getElem? (l := tables_1_4) (i := 147) rfl)))))) rfl)
set_option maxRecDepth 100000 in
theorem ml_162 : MPr [0, 292, 0, 142, 3, 0, 0] := ⟨"OneAtATime", pm_142, rfl, rfl, (gw (List.mem_append_right _ (List.mem_append_right _ (List.mem_append_right _ (List.mem_append_right _ (List.mem_append_left _ (List.mem_of_getElem? (l := tables_1_4) (i := 146) rfl)))))) rfl), mi_142, mf_142, rfl, Nat.le_of_ble_eq_true rfl⟩
set_option maxRecDepth 100000 in
theorem mf_138 : MFr pm_138 1 := ⟨(gw (List.mem_append_right _ (List.mem_append_right _ (List.mem_append_right _ (List.mem_append_right _ (List.mem_append_left _ (List.mem_of_getElem? (l := tables_1_4) (i := 135) rfl)))))) rfl), ini_7, by decide +kernel, by decide +kernel⟩
set_option maxRecDepth 100000 in
theorem mi_138 : Jvm.Cond.instanceMethod pm_138.2.1 ∈ gtb ∧ Jvm.Cond.selects pm_138.2.1.cls pm_138.2.1 pm_138.2.1 ∈ gtb := ⟨(gw (List.mem_append_right _ (List.mem_append_right _ (List.mem_append_right _ (List.mem_append_right _ (List.mem_append_left _ (List.mem_of_getElem? (l := tables_1_4) (i := 134) rfl)))))) rfl), (gw (List.mem_append_left _ (List.mem_of_getElem? (i := 23) rfl)) rfl)⟩
set_option maxRecDepth 100000 in
theorem ml_163 : MPr [7, 104, 1, 138, 2, 0, 6] := ⟨"OneAtATime$Search", pm_138, ("OneAtATime$Search", kT6, 3), rfl, rfl, rfl, rfl, (gw (List.mem_append_right _ (List.mem_append_right _ (List.mem_append_right _ (List.mem_append_right _ (List.mem_append_left _ (List.mem_of_getElem? (l := tables_1_4) (i := 132) rfl)))))) rfl), mi_138, mf_138, rfl, Nat.le_of_ble_eq_true rfl⟩
set_option maxRecDepth 100000 in
theorem mf_140 : MFr pm_140 3 := ⟨(gw (List.mem_append_right _ (List.mem_append_right _ (List.mem_append_right _ (List.mem_append_right _ (List.mem_append_left _ (List.mem_of_getElem? (l := tables_1_4) (i := 142) rfl)))))) rfl), ini_7, by decide +kernel, by decide +kernel⟩
set_option maxRecDepth 100000 in
theorem mi_140 : Jvm.Cond.instanceMethod pm_140.2.1 ∈ gtb ∧ Jvm.Cond.selects pm_140.2.1.cls pm_140.2.1 pm_140.2.1 ∈ gtb := ⟨(gw (List.mem_append_right _ (List.mem_append_right _ (List.mem_append_right _ (List.mem_append_right _ (List.mem_append_left _ (List.mem_of_getElem? (l := tables_1_4) (i := 141) rfl)))))) rfl), (gw (List.mem_append_left _ (List.mem_of_getElem? (i := 24) rfl)) rfl)⟩
set_option maxRecDepth 100000 in
theorem ml_164 : MPr [7, 107, 1, 140, 4, 0, 6] := ⟨"OneAtATime$Search", pm_140, ("OneAtATime$Search", kT6, 3), rfl, rfl, rfl, rfl, (gw (List.mem_append_right _ (List.mem_append_right _ (List.mem_append_right _ (List.mem_append_right _ (List.mem_append_left _ (List.mem_of_getElem? (l := tables_1_4) (i := 139) rfl)))))) rfl), mi_140, mf_140, rfl, Nat.le_of_ble_eq_true rfl⟩
set_option maxRecDepth 100000 in
theorem mf_139 : MFr pm_139 3 := ⟨(gw (List.mem_append_right _ (List.mem_append_right _ (List.mem_append_right _ (List.mem_append_right _ (List.mem_append_left _ (List.mem_of_getElem? (l := tables_1_4) (i := 138) rfl)))))) rfl), ini_7, by decide +kernel, by decide +kernel⟩
set_option maxRecDepth 100000 in
theorem mi_139 : Jvm.Cond.static pm_139.2.1 ∈ gtb := (gw (List.mem_append_right _ (List.mem_append_right _ (List.mem_append_right _ (List.mem_append_right _ (List.mem_append_left _ (List.mem_of_getElem? (l := tables_1_4) (i := 137) rfl)))))) rfl)
set_option maxRecDepth 100000 in
theorem ml_165 : MPr [7, 111, 0, 139, 3, 1, 0] := ⟨"OneAtATime$Search", pm_139, rfl, rfl, (gw (List.mem_append_right _ (List.mem_append_right _ (List.mem_append_right _ (List.mem_append_right _ (List.mem_append_left _ (List.mem_of_getElem? (l := tables_1_4) (i := 136) rfl)))))) rfl), mi_139, mf_139, rfl, Nat.le_of_ble_eq_true rfl⟩
set_option maxRecDepth 100000 in
theorem mf_141 : MFr pm_141 2 := ⟨(gw (List.mem_append_right _ (List.mem_append_right _ (List.mem_append_right _ (List.mem_append_right _ (List.mem_append_left _ (List.mem_of_getElem? (l := tables_1_4) (i := 145) rfl)))))) rfl), ini_7, by decide +kernel, by decide +kernel⟩
set_option maxRecDepth 100000 in
theorem mi_141 : Jvm.Cond.static pm_141.2.1 ∈ gtb := (gw (List.mem_append_right _ (List.mem_append_right _ (List.mem_append_right _ (List.mem_append_right _ (List.mem_append_left _ (List.mem_of_getElem? (l := tables_1_4) (i := 144) rfl)))))) rfl)
set_option maxRecDepth 100000 in
theorem ml_166 : MPr [7, 115, 0, 141, 2, 1, 0] := ⟨"OneAtATime$Search", pm_141, rfl, rfl, (gw (List.mem_append_right _ (List.mem_append_right _ (List.mem_append_right _ (List.mem_append_right _ (List.mem_append_left _ (List.mem_of_getElem? (l := tables_1_4) (i := 143) rfl)))))) rfl), mi_141, mf_141, rfl, Nat.le_of_ble_eq_true rfl⟩
set_option maxRecDepth 100000 in
theorem mf_144 : MFr pm_144 3 := ⟨(gw (List.mem_append_right _ (List.mem_append_right _ (List.mem_append_right _ (List.mem_append_right _ (List.mem_append_left _ (List.mem_of_getElem? (l := tables_1_4) (i := 155) rfl)))))) rfl), ini_12, by decide +kernel, by decide +kernel⟩
set_option maxRecDepth 100000 in
theorem mi_144 : Jvm.Cond.static pm_144.2.1 ∈ gtb := (gw (List.mem_append_right _ (List.mem_append_right _ (List.mem_append_right _ (List.mem_append_right _ (List.mem_append_left _ (List.mem_of_getElem? (l := tables_1_4) (i := 154) rfl)))))) rfl)
set_option maxRecDepth 100000 in
theorem ml_167 : MPr [0, 296, 0, 144, 3, 0, 0] := ⟨"OneAtATime", pm_144, rfl, rfl, (gw (List.mem_append_right _ (List.mem_append_right _ (List.mem_append_right _ (List.mem_append_right _ (List.mem_append_left _ (List.mem_of_getElem? (l := tables_1_4) (i := 153) rfl)))))) rfl), mi_144, mf_144, rfl, Nat.le_of_ble_eq_true rfl⟩
set_option maxRecDepth 100000 in
theorem mf_146 : MFr pm_146 2 := ⟨(gw (List.mem_append_right _ (List.mem_append_right _ (List.mem_append_right _ (List.mem_append_right _ (List.mem_append_left _ (List.mem_of_getElem? (l := tables_1_4) (i := 163) rfl)))))) rfl), ini_1, by decide +kernel, by decide +kernel⟩
set_option maxRecDepth 100000 in
theorem mi_146 : Jvm.Cond.instanceMethod pm_146.2.1 ∈ gtb ∧ Jvm.Cond.selects pm_146.2.1.cls pm_146.2.1 pm_146.2.1 ∈ gtb := ⟨(gw (List.mem_append_right _ (List.mem_append_right _ (List.mem_append_right _ (List.mem_append_right _ (List.mem_append_left _ (List.mem_of_getElem? (l := tables_1_4) (i := 161) rfl)))))) rfl), (gw (List.mem_append_right _ (List.mem_append_right _ (List.mem_append_right _ (List.mem_append_right _ (List.mem_append_left _ (List.mem_of_getElem? (l := tables_1_4) (i := 162) rfl)))))) rfl)⟩
set_option maxRecDepth 100000 in
theorem ml_168 : MPr [0, 300, 1, 146, 3, 1, 0] := ⟨"OneAtATime", pm_146, ("OneAtATime$BitList", kT0, 7), rfl, rfl, rfl, rfl, (gw (List.mem_append_right _ (List.mem_append_right _ (List.mem_append_right _ (List.mem_append_right _ (List.mem_append_left _ (List.mem_of_getElem? (l := tables_1_4) (i := 160) rfl)))))) rfl), mi_146, mf_146, rfl, Nat.le_of_ble_eq_true rfl⟩
set_option maxRecDepth 100000 in
theorem mf_147 : MFr pm_147 4 := ⟨(gw (List.mem_append_right _ (List.mem_append_right _ (List.mem_append_right _ (List.mem_append_right _ (List.mem_append_left _ (List.mem_of_getElem? (l := tables_1_4) (i := 166) rfl)))))) rfl), ini_12, by decide +kernel, by decide +kernel⟩
set_option maxRecDepth 100000 in
theorem mi_147 : Jvm.Cond.static pm_147.2.1 ∈ gtb := (gw (List.mem_append_right _ (List.mem_append_right _ (List.mem_append_right _ (List.mem_append_right _ (List.mem_append_left _ (List.mem_of_getElem? (l := tables_1_4) (i := 165) rfl)))))) rfl)
set_option maxRecDepth 100000 in
theorem ml_169 : MPr [0, 303, 0, 147, 4, 0, 0] := ⟨"OneAtATime", pm_147, rfl, rfl, (gw (List.mem_append_right _ (List.mem_append_right _ (List.mem_append_right _ (List.mem_append_right _ (List.mem_append_left _ (List.mem_of_getElem? (l := tables_1_4) (i := 164) rfl)))))) rfl), mi_147, mf_147, rfl, Nat.le_of_ble_eq_true rfl⟩
set_option maxRecDepth 100000 in
theorem mf_149 : MFr pm_149 1 := ⟨(gw (List.mem_append_right _ (List.mem_append_right _ (List.mem_append_right _ (List.mem_append_right _ (List.mem_append_left _ (List.mem_of_getElem? (l := tables_1_4) (i := 173) rfl)))))) rfl), ini_6, by decide +kernel, by decide +kernel⟩
set_option maxRecDepth 100000 in
theorem mi_149 : Jvm.Cond.static pm_149.2.1 ∈ gtb := (gw (List.mem_append_right _ (List.mem_append_right _ (List.mem_append_right _ (List.mem_append_right _ (List.mem_append_left _ (List.mem_of_getElem? (l := tables_1_4) (i := 172) rfl)))))) rfl)
set_option maxRecDepth 100000 in
theorem ml_170 : MPr [0, 307, 0, 149, 1, 1, 0] := ⟨"OneAtATime", pm_149, rfl, rfl, (gw (List.mem_append_right _ (List.mem_append_right _ (List.mem_append_right _ (List.mem_append_right _ (List.mem_append_left _ (List.mem_of_getElem? (l := tables_1_4) (i := 171) rfl)))))) rfl), mi_149, mf_149, rfl, Nat.le_of_ble_eq_true rfl⟩
set_option maxRecDepth 100000 in
theorem ml_171 : MPr [6, 129, 1, 146, 3, 1, 0] := ⟨"OneAtATime$Survey", pm_146, ("OneAtATime$BitList", kT0, 7), rfl, rfl, rfl, rfl, (gw (List.mem_append_right _ (List.mem_append_right _ (List.mem_append_right _ (List.mem_append_right _ (List.mem_append_left _ (List.mem_of_getElem? (l := tables_1_4) (i := 174) rfl)))))) rfl), mi_146, mf_146, rfl, Nat.le_of_ble_eq_true rfl⟩
set_option maxRecDepth 100000 in
theorem mf_151 : MFr pm_151 4 := ⟨(gw (List.mem_append_right _ (List.mem_append_right _ (List.mem_append_right _ (List.mem_append_right _ (List.mem_append_left _ (List.mem_of_getElem? (l := tables_1_4) (i := 181) rfl)))))) rfl), ini_12, by decide +kernel, by decide +kernel⟩
set_option maxRecDepth 100000 in
theorem mi_151 : Jvm.Cond.static pm_151.2.1 ∈ gtb := (gw (List.mem_append_right _ (List.mem_append_right _ (List.mem_append_right _ (List.mem_append_right _ (List.mem_append_left _ (List.mem_of_getElem? (l := tables_1_4) (i := 180) rfl)))))) rfl)
set_option maxRecDepth 100000 in
theorem ml_172 : MPr [0, 310, 0, 151, 4, 0, 0] := ⟨"OneAtATime", pm_151, rfl, rfl, (gw (List.mem_append_right _ (List.mem_append_right _ (List.mem_append_right _ (List.mem_append_right _ (List.mem_append_left _ (List.mem_of_getElem? (l := tables_1_4) (i := 179) rfl)))))) rfl), mi_151, mf_151, rfl, Nat.le_of_ble_eq_true rfl⟩
set_option maxRecDepth 100000 in
theorem mf_153 : MFr pm_153 2 := ⟨(gw (List.mem_append_right _ (List.mem_append_right _ (List.mem_append_right _ (List.mem_append_right _ (List.mem_append_left _ (List.mem_of_getElem? (l := tables_1_4) (i := 188) rfl)))))) rfl), ini_12, by decide +kernel, by decide +kernel⟩
set_option maxRecDepth 100000 in
theorem mi_153 : Jvm.Cond.static pm_153.2.1 ∈ gtb := (gw (List.mem_append_right _ (List.mem_append_right _ (List.mem_append_right _ (List.mem_append_right _ (List.mem_append_left _ (List.mem_of_getElem? (l := tables_1_4) (i := 187) rfl)))))) rfl)
set_option maxRecDepth 100000 in
theorem ml_173 : MPr [0, 313, 0, 153, 2, 0, 0] := ⟨"OneAtATime", pm_153, rfl, rfl, (gw (List.mem_append_right _ (List.mem_append_right _ (List.mem_append_right _ (List.mem_append_right _ (List.mem_append_left _ (List.mem_of_getElem? (l := tables_1_4) (i := 186) rfl)))))) rfl), mi_153, mf_153, rfl, Nat.le_of_ble_eq_true rfl⟩
set_option maxRecDepth 100000 in
theorem ml_174 : MPr [12, 75, 1, 64, 3, 1, 0] := ⟨"OneAtATime$Maker", pm_64, ("OneAtATime$BitList", kT0, 7), rfl, rfl, rfl, rfl, (gw (List.mem_append_right _ (List.mem_append_right _ (List.mem_append_right _ (List.mem_append_right _ (List.mem_append_left _ (List.mem_of_getElem? (l := tables_1_4) (i := 189) rfl)))))) rfl), mi_64, mf_64, rfl, Nat.le_of_ble_eq_true rfl⟩
set_option maxRecDepth 100000 in
theorem ml_175 : MPr [0, 316, 1, 104, 3, 0, 0] := ⟨"OneAtATime", pm_104, ("OneAtATime$BitList", kT0, 7), rfl, rfl, rfl, rfl, (gw (List.mem_append_right _ (List.mem_append_right _ (List.mem_append_right _ (List.mem_append_right _ (List.mem_append_left _ (List.mem_of_getElem? (l := tables_1_4) (i := 194) rfl)))))) rfl), mi_104, mf_104, rfl, Nat.le_of_ble_eq_true rfl⟩
set_option maxRecDepth 100000 in
theorem ml_176 : MPr [0, 320, 1, 107, 5, 0, 0] := ⟨"OneAtATime", pm_107, ("OneAtATime$BitList", kT0, 7), rfl, rfl, rfl, rfl, (gw (List.mem_append_right _ (List.mem_append_right _ (List.mem_append_right _ (List.mem_append_right _ (List.mem_append_left _ (List.mem_of_getElem? (l := tables_1_4) (i := 195) rfl)))))) rfl), mi_107, mf_107, rfl, Nat.le_of_ble_eq_true rfl⟩
set_option maxRecDepth 100000 in
theorem mf_156 : MFr pm_156 4 := ⟨(gw (List.mem_append_right _ (List.mem_append_right _ (List.mem_append_right _ (List.mem_append_right _ (List.mem_append_left _ (List.mem_of_getElem? (l := tables_1_4) (i := 202) rfl)))))) rfl), ini_12, by decide +kernel, by decide +kernel⟩
set_option maxRecDepth 100000 in
theorem mi_156 : Jvm.Cond.static pm_156.2.1 ∈ gtb := (gw (List.mem_append_right _ (List.mem_append_right _ (List.mem_append_right _ (List.mem_append_right _ (List.mem_append_left _ (List.mem_of_getElem? (l := tables_1_4) (i := 201) rfl)))))) rfl)
set_option maxRecDepth 100000 in
theorem ml_177 : MPr [0, 324, 0, 156, 4, 0, 0] := ⟨"OneAtATime", pm_156, rfl, rfl, (gw (List.mem_append_right _ (List.mem_append_right _ (List.mem_append_right _ (List.mem_append_right _ (List.mem_append_left _ (List.mem_of_getElem? (l := tables_1_4) (i := 200) rfl)))))) rfl), mi_156, mf_156, rfl, Nat.le_of_ble_eq_true rfl⟩
set_option maxRecDepth 100000 in
theorem ml_178 : MPr [0, 327, 1, 112, 1, 1, 0] := ⟨"OneAtATime", pm_112, ("OneAtATime$BitList", kT0, 7), rfl, rfl, rfl, rfl, (gw (List.mem_append_right _ (List.mem_append_right _ (List.mem_append_right _ (List.mem_append_right _ (List.mem_append_left _ (List.mem_of_getElem? (l := tables_1_4) (i := 207) rfl)))))) rfl), mi_112, mf_112, rfl, Nat.le_of_ble_eq_true rfl⟩
set_option maxRecDepth 100000 in
theorem ml_179 : MPr [0, 330, 1, 123, 4, 0, 0] := ⟨"OneAtATime", pm_123, ("OneAtATime$BitList", kT0, 7), rfl, rfl, rfl, rfl, (gw (List.mem_append_right _ (List.mem_append_right _ (List.mem_append_right _ (List.mem_append_right _ (List.mem_append_left _ (List.mem_of_getElem? (l := tables_1_4) (i := 208) rfl)))))) rfl), mi_123, mf_123, rfl, Nat.le_of_ble_eq_true rfl⟩
set_option maxRecDepth 100000 in
theorem ml_180 : MPr [0, 336, 1, 31, 2, 0, 0] := ⟨"OneAtATime", pm_31, ("OneAtATime$BitList", kT0, 7), rfl, rfl, rfl, rfl, (gw (List.mem_append_right _ (List.mem_append_right _ (List.mem_append_right _ (List.mem_append_right _ (List.mem_append_left _ (List.mem_of_getElem? (l := tables_1_4) (i := 217) rfl)))))) rfl), mi_31, mf_31, rfl, Nat.le_of_ble_eq_true rfl⟩
set_option maxRecDepth 100000 in
theorem mf_162 : MFr pm_162 2 := ⟨(gw (List.mem_append_right _ (List.mem_append_right _ (List.mem_append_right _ (List.mem_append_right _ (List.mem_append_left _ (List.mem_of_getElem? (l := tables_1_4) (i := 229) rfl)))))) rfl), ini_8, by decide +kernel, by decide +kernel⟩
set_option maxRecDepth 100000 in
theorem mi_162 : Jvm.Cond.instanceMethod pm_162.2.1 ∈ gtb ∧ Jvm.Cond.selects pm_162.2.1.cls pm_162.2.1 pm_162.2.1 ∈ gtb := ⟨(gw (List.mem_append_right _ (List.mem_append_right _ (List.mem_append_right _ (List.mem_append_right _ (List.mem_append_left _ (List.mem_of_getElem? (l := tables_1_4) (i := 227) rfl)))))) rfl), (gw (List.mem_append_right _ (List.mem_append_right _ (List.mem_append_right _ (List.mem_append_right _ (List.mem_append_left _ (List.mem_of_getElem? (l := tables_1_4) (i := 228) rfl)))))) rfl)⟩
set_option maxRecDepth 100000 in
theorem ml_181 : MPr [0, 339, 1, 162, 3, 1, 4] := ⟨"OneAtATime", pm_162, ("OneAtATime$Likeness", kT4, 2), rfl, rfl, rfl, rfl, (gw (List.mem_append_right _ (List.mem_append_right _ (List.mem_append_right _ (List.mem_append_right _ (List.mem_append_left _ (List.mem_of_getElem? (l := tables_1_4) (i := 226) rfl)))))) rfl), mi_162, mf_162, rfl, Nat.le_of_ble_eq_true rfl⟩
set_option maxRecDepth 100000 in
theorem ml_182 : MPr [8, 24, 1, 43, 1, 1, 0] := ⟨"OneAtATime$Likeness", pm_43, ("OneAtATime$BitList", kT0, 7), rfl, rfl, rfl, rfl, (gw (List.mem_append_right _ (List.mem_append_right _ (List.mem_append_right _ (List.mem_append_right _ (List.mem_append_left _ (List.mem_of_getElem? (l := tables_1_4) (i := 230) rfl)))))) rfl), mi_43, mf_43, rfl, Nat.le_of_ble_eq_true rfl⟩
set_option maxRecDepth 100000 in
theorem mf_163 : MFr pm_163 4 := ⟨(gw (List.mem_append_right _ (List.mem_append_right _ (List.mem_append_right _ (List.mem_append_right _ (List.mem_append_left _ (List.mem_of_getElem? (l := tables_1_4) (i := 234) rfl)))))) rfl), ini_8, by decide +kernel, by decide +kernel⟩
set_option maxRecDepth 100000 in
theorem mi_163 : Jvm.Cond.instanceMethod pm_163.2.1 ∈ gtb ∧ Jvm.Cond.selects pm_163.2.1.cls pm_163.2.1 pm_163.2.1 ∈ gtb := ⟨(gw (List.mem_append_right _ (List.mem_append_right _ (List.mem_append_right _ (List.mem_append_right _ (List.mem_append_left _ (List.mem_of_getElem? (l := tables_1_4) (i := 233) rfl)))))) rfl), (gw (List.mem_append_left _ (List.mem_of_getElem? (i := 25) rfl)) rfl)⟩
set_option maxRecDepth 100000 in
theorem ml_183 : MPr [8, 28, 1, 163, 5, 1, 4] := ⟨"OneAtATime$Likeness", pm_163, ("OneAtATime$Likeness", kT4, 2), rfl, rfl, rfl, rfl, (gw (List.mem_append_right _ (List.mem_append_right _ (List.mem_append_right _ (List.mem_append_right _ (List.mem_append_left _ (List.mem_of_getElem? (l := tables_1_4) (i := 231) rfl)))))) rfl), mi_163, mf_163, rfl, Nat.le_of_ble_eq_true rfl⟩
set_option maxRecDepth 100000 in
theorem ml_184 : MPr [8, 32, 0, 46, 2, 0, 0] := ⟨"OneAtATime$Likeness", pm_46, rfl, rfl, (gw (List.mem_append_right _ (List.mem_append_right _ (List.mem_append_right _ (List.mem_append_right _ (List.mem_append_left _ (List.mem_of_getElem? (l := tables_1_4) (i := 235) rfl)))))) rfl), mi_46, mf_46, rfl, Nat.le_of_ble_eq_true rfl⟩
set_option maxRecDepth 100000 in
theorem mf_166 : MFr pm_166 0 := ⟨(gw (List.mem_append_right _ (List.mem_append_right _ (List.mem_append_right _ (List.mem_append_right _ (List.mem_append_right _ (List.mem_append_left _ (List.mem_of_getElem? (l := tables_1_5) (i := 7) rfl))))))) rfl), ini_2, by decide +kernel, by decide +kernel⟩
set_option maxRecDepth 100000 in
theorem mi_166 : Jvm.Cond.instanceMethod pm_166.2.1 ∈ gtb ∧ Jvm.Cond.selects pm_166.2.1.cls pm_166.2.1 pm_166.2.1 ∈ gtb := ⟨(gw (List.mem_append_right _ (List.mem_append_right _ (List.mem_append_right _ (List.mem_append_right _ (List.mem_append_right _ (List.mem_append_left _ (List.mem_of_getElem? (l := tables_1_5) (i := 5) rfl))))))) rfl), (gw (List.mem_append_right _ (List.mem_append_right _ (List.mem_append_right _ (List.mem_append_right _ (List.mem_append_right _ (List.mem_append_left _ (List.mem_of_getElem? (l := tables_1_5) (i := 6) rfl))))))) rfl)⟩
set_option maxRecDepth 100000 in
theorem ml_185 : MPr [0, 351, 1, 166, 1, 1, 3] := ⟨"OneAtATime", pm_166, ("OneAtATime$History", kT3, 4), rfl, rfl, rfl, rfl, (gw (List.mem_append_right _ (List.mem_append_right _ (List.mem_append_right _ (List.mem_append_right _ (List.mem_append_right _ (List.mem_append_left _ (List.mem_of_getElem? (l := tables_1_5) (i := 4) rfl))))))) rfl), mi_166, mf_166, rfl, Nat.le_of_ble_eq_true rfl⟩
set_option maxRecDepth 100000 in
theorem mf_168 : MFr pm_168 1 := ⟨(gw (List.mem_append_right _ (List.mem_append_right _ (List.mem_append_right _ (List.mem_append_right _ (List.mem_append_right _ (List.mem_append_left _ (List.mem_of_getElem? (l := tables_1_5) (i := 15) rfl))))))) rfl), ini_2, by decide +kernel, by decide +kernel⟩
set_option maxRecDepth 100000 in
theorem mi_168 : Jvm.Cond.instanceMethod pm_168.2.1 ∈ gtb ∧ Jvm.Cond.selects pm_168.2.1.cls pm_168.2.1 pm_168.2.1 ∈ gtb := ⟨(gw (List.mem_append_right _ (List.mem_append_right _ (List.mem_append_right _ (List.mem_append_right _ (List.mem_append_right _ (List.mem_append_left _ (List.mem_of_getElem? (l := tables_1_5) (i := 13) rfl))))))) rfl), (gw (List.mem_append_right _ (List.mem_append_right _ (List.mem_append_right _ (List.mem_append_right _ (List.mem_append_right _ (List.mem_append_left _ (List.mem_of_getElem? (l := tables_1_5) (i := 14) rfl))))))) rfl)⟩
set_option maxRecDepth 100000 in
theorem ml_186 : MPr [0, 354, 1, 168, 2, 0, 3] := ⟨"OneAtATime", pm_168, ("OneAtATime$History", kT3, 4), rfl, rfl, rfl, rfl, (gw (List.mem_append_right _ (List.mem_append_right _ (List.mem_append_right _ (List.mem_append_right _ (List.mem_append_right _ (List.mem_append_left _ (List.mem_of_getElem? (l := tables_1_5) (i := 12) rfl))))))) rfl), mi_168, mf_168, rfl, Nat.le_of_ble_eq_true rfl⟩
set_option maxRecDepth 100000 in
theorem mf_167 : MFr pm_167 0 := ⟨(gw (List.mem_append_right _ (List.mem_append_right _ (List.mem_append_right _ (List.mem_append_right _ (List.mem_append_right _ (List.mem_append_left _ (List.mem_of_getElem? (l := tables_1_5) (i := 11) rfl))))))) rfl), ini_2, by decide +kernel, by decide +kernel⟩
set_option maxRecDepth 100000 in
theorem mi_167 : Jvm.Cond.instanceMethod pm_167.2.1 ∈ gtb ∧ Jvm.Cond.selects pm_167.2.1.cls pm_167.2.1 pm_167.2.1 ∈ gtb := ⟨(gw (List.mem_append_right _ (List.mem_append_right _ (List.mem_append_right _ (List.mem_append_right _ (List.mem_append_right _ (List.mem_append_left _ (List.mem_of_getElem? (l := tables_1_5) (i := 10) rfl))))))) rfl), (gw (List.mem_append_left _ (List.mem_of_getElem? (i := 26) rfl)) rfl)⟩
set_option maxRecDepth 100000 in
theorem ml_187 : MPr [2, 39, 1, 167, 1, 1, 3] := ⟨"OneAtATime$History", pm_167, ("OneAtATime$History", kT3, 4), rfl, rfl, rfl, rfl, (gw (List.mem_append_right _ (List.mem_append_right _ (List.mem_append_right _ (List.mem_append_right _ (List.mem_append_right _ (List.mem_append_left _ (List.mem_of_getElem? (l := tables_1_5) (i := 8) rfl))))))) rfl), mi_167, mf_167, rfl, Nat.le_of_ble_eq_true rfl⟩
set_option maxRecDepth 100000 in
theorem mf_170 : MFr pm_170 1 := ⟨(gw (List.mem_append_right _ (List.mem_append_right _ (List.mem_append_right _ (List.mem_append_right _ (List.mem_append_right _ (List.mem_append_left _ (List.mem_of_getElem? (l := tables_1_5) (i := 23) rfl))))))) rfl), ini_4, by decide +kernel, by decide +kernel⟩
set_option maxRecDepth 100000 in
theorem mi_170 : Jvm.Cond.instanceMethod pm_170.2.1 ∈ gtb ∧ Jvm.Cond.selects pm_170.2.1.cls pm_170.2.1 pm_170.2.1 ∈ gtb := ⟨(gw (List.mem_append_right _ (List.mem_append_right _ (List.mem_append_right _ (List.mem_append_right _ (List.mem_append_right _ (List.mem_append_left _ (List.mem_of_getElem? (l := tables_1_5) (i := 21) rfl))))))) rfl), (gw (List.mem_append_right _ (List.mem_append_right _ (List.mem_append_right _ (List.mem_append_right _ (List.mem_append_right _ (List.mem_append_left _ (List.mem_of_getElem? (l := tables_1_5) (i := 22) rfl))))))) rfl)⟩
set_option maxRecDepth 100000 in
theorem ml_188 : MPr [0, 357, 1, 170, 2, 0, 1] := ⟨"OneAtATime", pm_170, ("OneAtATime$Bytes", kT1, 2), rfl, rfl, rfl, rfl, (gw (List.mem_append_right _ (List.mem_append_right _ (List.mem_append_right _ (List.mem_append_right _ (List.mem_append_right _ (List.mem_append_left _ (List.mem_of_getElem? (l := tables_1_5) (i := 20) rfl))))))) rfl), mi_170, mf_170, rfl, Nat.le_of_ble_eq_true rfl⟩
set_option maxRecDepth 100000 in
theorem mf_173 : MFr pm_173 1 := ⟨(gw (List.mem_append_right _ (List.mem_append_right _ (List.mem_append_right _ (List.mem_append_right _ (List.mem_append_right _ (List.mem_append_left _ (List.mem_of_getElem? (l := tables_1_5) (i := 41) rfl))))))) rfl), ini_4, by decide +kernel, by decide +kernel⟩
set_option maxRecDepth 100000 in
theorem mi_173 : Jvm.Cond.instanceMethod pm_173.2.1 ∈ gtb ∧ Jvm.Cond.selects pm_173.2.1.cls pm_173.2.1 pm_173.2.1 ∈ gtb := ⟨(gw (List.mem_append_right _ (List.mem_append_right _ (List.mem_append_right _ (List.mem_append_right _ (List.mem_append_right _ (List.mem_append_left _ (List.mem_of_getElem? (l := tables_1_5) (i := 39) rfl))))))) rfl), (gw (List.mem_append_right _ (List.mem_append_right _ (List.mem_append_right _ (List.mem_append_right _ (List.mem_append_right _ (List.mem_append_left _ (List.mem_of_getElem? (l := tables_1_5) (i := 40) rfl))))))) rfl)⟩
set_option maxRecDepth 100000 in
theorem ml_189 : MPr [0, 360, 1, 173, 2, 0, 1] := ⟨"OneAtATime", pm_173, ("OneAtATime$Bytes", kT1, 2), rfl, rfl, rfl, rfl, (gw (List.mem_append_right _ (List.mem_append_right _ (List.mem_append_right _ (List.mem_append_right _ (List.mem_append_right _ (List.mem_append_left _ (List.mem_of_getElem? (l := tables_1_5) (i := 38) rfl))))))) rfl), mi_173, mf_173, rfl, Nat.le_of_ble_eq_true rfl⟩
set_option maxRecDepth 100000 in
theorem mf_171 : MFr pm_171 1 := ⟨(gw (List.mem_append_right _ (List.mem_append_right _ (List.mem_append_right _ (List.mem_append_right _ (List.mem_append_right _ (List.mem_append_left _ (List.mem_of_getElem? (l := tables_1_5) (i := 28) rfl))))))) rfl), ini_4, by decide +kernel, by decide +kernel⟩
set_option maxRecDepth 100000 in
theorem mi_171 : Jvm.Cond.instanceMethod pm_171.2.1 ∈ gtb ∧ Jvm.Cond.selects pm_171.2.1.cls pm_171.2.1 pm_171.2.1 ∈ gtb := ⟨(gw (List.mem_append_right _ (List.mem_append_right _ (List.mem_append_right _ (List.mem_append_right _ (List.mem_append_right _ (List.mem_append_left _ (List.mem_of_getElem? (l := tables_1_5) (i := 26) rfl))))))) rfl), (gw (List.mem_append_right _ (List.mem_append_right _ (List.mem_append_right _ (List.mem_append_right _ (List.mem_append_right _ (List.mem_append_left _ (List.mem_of_getElem? (l := tables_1_5) (i := 27) rfl))))))) rfl)⟩
set_option maxRecDepth 100000 in
theorem ml_190 : MPr [4, 40, 1, 171, 2, 0, 1] := ⟨"OneAtATime$Bytes", pm_171, ("OneAtATime$Bytes", kT1, 2), rfl, rfl, rfl, rfl, (gw (List.mem_append_right _ (List.mem_append_right _ (List.mem_append_right _ (List.mem_append_right _ (List.mem_append_right _ (List.mem_append_left _ (List.mem_of_getElem? (l := tables_1_5) (i := 25) rfl))))))) rfl), mi_171, mf_171, rfl, Nat.le_of_ble_eq_true rfl⟩
set_option maxRecDepth 100000 in
theorem mf_172 : MFr pm_172 1 := ⟨(gw (List.mem_append_right _ (List.mem_append_right _ (List.mem_append_right _ (List.mem_append_right _ (List.mem_append_right _ (List.mem_append_left _ (List.mem_of_getElem? (l := tables_1_5) (i := 34) rfl))))))) rfl), ini_4, by decide +kernel, by decide +kernel⟩
set_option maxRecDepth 100000 in
theorem mi_172 : Jvm.Cond.instanceMethod pm_172.2.1 ∈ gtb ∧ Jvm.Cond.selects pm_172.2.1.cls pm_172.2.1 pm_172.2.1 ∈ gtb := ⟨(gw (List.mem_append_right _ (List.mem_append_right _ (List.mem_append_right _ (List.mem_append_right _ (List.mem_append_right _ (List.mem_append_left _ (List.mem_of_getElem? (l := tables_1_5) (i := 32) rfl))))))) rfl), (gw (List.mem_append_right _ (List.mem_append_right _ (List.mem_append_right _ (List.mem_append_right _ (List.mem_append_right _ (List.mem_append_left _ (List.mem_of_getElem? (l := tables_1_5) (i := 33) rfl))))))) rfl)⟩
set_option maxRecDepth 100000 in
theorem ml_191 : MPr [4, 49, 1, 172, 2, 0, 1] := ⟨"OneAtATime$Bytes", pm_172, ("OneAtATime$Bytes", kT1, 2), rfl, rfl, rfl, rfl, (gw (List.mem_append_right _ (List.mem_append_right _ (List.mem_append_right _ (List.mem_append_right _ (List.mem_append_right _ (List.mem_append_left _ (List.mem_of_getElem? (l := tables_1_5) (i := 31) rfl))))))) rfl), mi_172, mf_172, rfl, Nat.le_of_ble_eq_true rfl⟩
set_option maxRecDepth 100000 in
theorem ml_192 : MPr [4, 29, 1, 1000, 1, 1, 30] := ⟨"OneAtATime$Bytes", rfl, (gw (List.mem_append_right _ (List.mem_append_right _ (List.mem_append_right _ (List.mem_append_right _ (List.mem_append_right _ (List.mem_append_left _ (List.mem_of_getElem? (l := tables_1_5) (i := 29) rfl))))))) rfl)⟩
set_option maxRecDepth 100000 in
theorem ml_193 : MPr [4, 34, 1, 1001, 2, 1, 30] := ⟨"OneAtATime$Bytes", rfl, (gw (List.mem_append_right _ (List.mem_append_right _ (List.mem_append_right _ (List.mem_append_right _ (List.mem_append_right _ (List.mem_append_left _ (List.mem_of_getElem? (l := tables_1_5) (i := 30) rfl))))))) rfl)⟩
set_option maxRecDepth 100000 in
theorem ml_194 : MPr [4, 74, 1, 42, 1, 1, 0] := ⟨"OneAtATime$Bytes", pm_42, ("OneAtATime$BitList", kT0, 7), rfl, rfl, rfl, rfl, (gw (List.mem_append_right _ (List.mem_append_right _ (List.mem_append_right _ (List.mem_append_right _ (List.mem_append_right _ (List.mem_append_left _ (List.mem_of_getElem? (l := tables_1_5) (i := 42) rfl))))))) rfl), mi_42, mf_42, rfl, Nat.le_of_ble_eq_true rfl⟩
set_option maxRecDepth 100000 in
theorem ml_195 : MPr [4, 77, 1, 64, 3, 1, 0] := ⟨"OneAtATime$Bytes", pm_64, ("OneAtATime$BitList", kT0, 7), rfl, rfl, rfl, rfl, (gw (List.mem_append_right _ (List.mem_append_right _ (List.mem_append_right _ (List.mem_append_right _ (List.mem_append_right _ (List.mem_append_left _ (List.mem_of_getElem? (l := tables_1_5) (i := 43) rfl))))))) rfl), mi_64, mf_64, rfl, Nat.le_of_ble_eq_true rfl⟩
set_option maxRecDepth 100000 in
theorem ml_196 : MPr [0, 363, 1, 19, 2, 1, 1] := ⟨"OneAtATime", pm_19, ("OneAtATime$Bytes", kT1, 2), rfl, rfl, rfl, rfl, (gw (List.mem_append_right _ (List.mem_append_right _ (List.mem_append_right _ (List.mem_append_right _ (List.mem_append_right _ (List.mem_append_left _ (List.mem_of_getElem? (l := tables_1_5) (i := 48) rfl))))))) rfl), mi_19, mf_19, rfl, Nat.le_of_ble_eq_true rfl⟩
set_option maxRecDepth 100000 in
theorem ml_197 : MPr [14, 7, 2, 1003, 1, 0, 0] := ⟨"OneAtATimeModel", rfl, (gw (List.mem_append_right _ (List.mem_append_right _ (List.mem_append_right _ (List.mem_append_right _ (List.mem_append_right _ (List.mem_append_left _ (List.mem_of_getElem? (l := tables_1_5) (i := 54) rfl))))))) rfl), (gw (List.mem_append_right _ (List.mem_append_left _ (List.mem_of_getElem? (l := tables_1_1) (i := 27) rfl))) rfl), (gw (List.mem_append_right _ (List.mem_append_left _ (List.mem_of_getElem? (l := tables_1_1) (i := 28) rfl))) rfl)⟩
set_option maxRecDepth 100000 in
theorem mf_178 : MFr pm_178 1 := ⟨(gw (List.mem_append_right _ (List.mem_append_right _ (List.mem_append_right _ (List.mem_append_right _ (List.mem_append_right _ (List.mem_append_left _ (List.mem_of_getElem? (l := tables_1_5) (i := 154) rfl))))))) rfl), ini_14, by decide +kernel, by decide +kernel⟩
set_option maxRecDepth 100000 in
theorem mi_178 : Jvm.Cond.static pm_178.2.1 ∈ gtb := (gw (List.mem_append_right _ (List.mem_append_right _ (List.mem_append_right _ (List.mem_append_right _ (List.mem_append_right _ (List.mem_append_left _ (List.mem_of_getElem? (l := tables_1_5) (i := 153) rfl))))))) rfl)
set_option maxRecDepth 100000 in
theorem ml_198 : MPr [14, 64, 0, 178, 1, 1, 0] := ⟨"OneAtATimeModel", pm_178, rfl, rfl, (gw (List.mem_append_right _ (List.mem_append_right _ (List.mem_append_right _ (List.mem_append_right _ (List.mem_append_right _ (List.mem_append_left _ (List.mem_of_getElem? (l := tables_1_5) (i := 152) rfl))))))) rfl), mi_178, mf_178, rfl, Nat.le_of_ble_eq_true rfl⟩
set_option maxRecDepth 100000 in
theorem mf_180 : MFr pm_180 1 := ⟨(gw (List.mem_append_right _ (List.mem_append_right _ (List.mem_append_right _ (List.mem_append_right _ (List.mem_append_right _ (List.mem_append_left _ (List.mem_of_getElem? (l := tables_1_5) (i := 162) rfl))))))) rfl), ini_14, by decide +kernel, by decide +kernel⟩
set_option maxRecDepth 100000 in
theorem mi_180 : Jvm.Cond.instanceMethod pm_180.2.1 ∈ gtb ∧ Jvm.Cond.selects pm_180.2.1.cls pm_180.2.1 pm_180.2.1 ∈ gtb := ⟨(gw (List.mem_append_right _ (List.mem_append_right _ (List.mem_append_right _ (List.mem_append_right _ (List.mem_append_right _ (List.mem_append_left _ (List.mem_of_getElem? (l := tables_1_5) (i := 161) rfl))))))) rfl), (gw (List.mem_append_left _ (List.mem_of_getElem? (i := 27) rfl)) rfl)⟩
set_option maxRecDepth 100000 in
theorem ml_199 : MPr [14, 72, 1, 180, 2, 1, 9] := ⟨"OneAtATimeModel", pm_180, ("OneAtATimeModel", kT9, 29), rfl, rfl, rfl, rfl, (gw (List.mem_append_right _ (List.mem_append_right _ (List.mem_append_right _ (List.mem_append_right _ (List.mem_append_right _ (List.mem_append_left _ (List.mem_of_getElem? (l := tables_1_5) (i := 159) rfl))))))) rfl), mi_180, mf_180, rfl, Nat.le_of_ble_eq_true rfl⟩
set_option maxRecDepth 100000 in
theorem mf_182 : MFr pm_182 5 := ⟨(gw (List.mem_append_right _ (List.mem_append_right _ (List.mem_append_right _ (List.mem_append_right _ (List.mem_append_right _ (List.mem_append_left _ (List.mem_of_getElem? (l := tables_1_5) (i := 170) rfl))))))) rfl), ini_14, by decide +kernel, by decide +kernel⟩
set_option maxRecDepth 100000 in
theorem mi_182 : Jvm.Cond.instanceMethod pm_182.2.1 ∈ gtb ∧ Jvm.Cond.selects pm_182.2.1.cls pm_182.2.1 pm_182.2.1 ∈ gtb := ⟨(gw (List.mem_append_right _ (List.mem_append_right _ (List.mem_append_right _ (List.mem_append_right _ (List.mem_append_right _ (List.mem_append_left _ (List.mem_of_getElem? (l := tables_1_5) (i := 169) rfl))))))) rfl), (gw (List.mem_append_left _ (List.mem_of_getElem? (i := 29) rfl)) rfl)⟩
set_option maxRecDepth 100000 in
theorem ml_200 : MPr [14, 94, 1, 182, 6, 0, 9] := ⟨"OneAtATimeModel", pm_182, ("OneAtATimeModel", kT9, 29), rfl, rfl, rfl, rfl, (gw (List.mem_append_right _ (List.mem_append_right _ (List.mem_append_right _ (List.mem_append_right _ (List.mem_append_right _ (List.mem_append_left _ (List.mem_of_getElem? (l := tables_1_5) (i := 167) rfl))))))) rfl), mi_182, mf_182, rfl, Nat.le_of_ble_eq_true rfl⟩
set_option maxRecDepth 100000 in
theorem mf_184 : MFr pm_184 1 := ⟨(gw (List.mem_append_right _ (List.mem_append_right _ (List.mem_append_right _ (List.mem_append_right _ (List.mem_append_right _ (List.mem_append_left _ (List.mem_of_getElem? (l := tables_1_5) (i := 178) rfl))))))) rfl), ini_14, by decide +kernel, by decide +kernel⟩
set_option maxRecDepth 100000 in
theorem mi_184 : Jvm.Cond.instanceMethod pm_184.2.1 ∈ gtb ∧ Jvm.Cond.selects pm_184.2.1.cls pm_184.2.1 pm_184.2.1 ∈ gtb := ⟨(gw (List.mem_append_right _ (List.mem_append_right _ (List.mem_append_right _ (List.mem_append_right _ (List.mem_append_right _ (List.mem_append_left _ (List.mem_of_getElem? (l := tables_1_5) (i := 177) rfl))))))) rfl), (gw (List.mem_append_left _ (List.mem_of_getElem? (i := 31) rfl)) rfl)⟩
set_option maxRecDepth 100000 in
theorem ml_201 : MPr [14, 85, 1, 184, 2, 1, 9] := ⟨"OneAtATimeModel", pm_184, ("OneAtATimeModel", kT9, 29), rfl, rfl, rfl, rfl, (gw (List.mem_append_right _ (List.mem_append_right _ (List.mem_append_right _ (List.mem_append_right _ (List.mem_append_right _ (List.mem_append_left _ (List.mem_of_getElem? (l := tables_1_5) (i := 175) rfl))))))) rfl), mi_184, mf_184, rfl, Nat.le_of_ble_eq_true rfl⟩
set_option maxRecDepth 100000 in
theorem mf_179 : MFr pm_179 3 := ⟨(gw (List.mem_append_right _ (List.mem_append_right _ (List.mem_append_right _ (List.mem_append_right _ (List.mem_append_right _ (List.mem_append_left _ (List.mem_of_getElem? (l := tables_1_5) (i := 158) rfl))))))) rfl), ini_14, by decide +kernel, by decide +kernel⟩
set_option maxRecDepth 100000 in
theorem mi_179 : Jvm.Cond.static pm_179.2.1 ∈ gtb := (gw (List.mem_append_right _ (List.mem_append_right _ (List.mem_append_right _ (List.mem_append_right _ (List.mem_append_right _ (List.mem_append_left _ (List.mem_of_getElem? (l := tables_1_5) (i := 157) rfl))))))) rfl)
set_option maxRecDepth 100000 in
theorem ml_202 : MPr [14, 60, 0, 179, 3, 1, 0] := ⟨"OneAtATimeModel", pm_179, rfl, rfl, (gw (List.mem_append_right _ (List.mem_append_right _ (List.mem_append_right _ (List.mem_append_right _ (List.mem_append_right _ (List.mem_append_left _ (List.mem_of_getElem? (l := tables_1_5) (i := 156) rfl))))))) rfl), mi_179, mf_179, rfl, Nat.le_of_ble_eq_true rfl⟩
set_option maxRecDepth 100000 in
theorem mf_181 : MFr pm_181 2 := ⟨(gw (List.mem_append_right _ (List.mem_append_right _ (List.mem_append_right _ (List.mem_append_right _ (List.mem_append_right _ (List.mem_append_left _ (List.mem_of_getElem? (l := tables_1_5) (i := 166) rfl))))))) rfl), ini_14, by decide +kernel, by decide +kernel⟩
set_option maxRecDepth 100000 in
theorem mi_181 : Jvm.Cond.instanceMethod pm_181.2.1 ∈ gtb ∧ Jvm.Cond.selects pm_181.2.1.cls pm_181.2.1 pm_181.2.1 ∈ gtb := ⟨(gw (List.mem_append_right _ (List.mem_append_right _ (List.mem_append_right _ (List.mem_append_right _ (List.mem_append_right _ (List.mem_append_left _ (List.mem_of_getElem? (l := tables_1_5) (i := 165) rfl))))))) rfl), (gw (List.mem_append_left _ (List.mem_of_getElem? (i := 28) rfl)) rfl)⟩
set_option maxRecDepth 100000 in
theorem ml_203 : MPr [14, 68, 1, 181, 3, 1, 9] := ⟨"OneAtATimeModel", pm_181, ("OneAtATimeModel", kT9, 29), rfl, rfl, rfl, rfl, (gw (List.mem_append_right _ (List.mem_append_right _ (List.mem_append_right _ (List.mem_append_right _ (List.mem_append_right _ (List.mem_append_left _ (List.mem_of_getElem? (l := tables_1_5) (i := 163) rfl))))))) rfl), mi_181, mf_181, rfl, Nat.le_of_ble_eq_true rfl⟩
set_option maxRecDepth 100000 in
theorem mf_183 : MFr pm_183 0 := ⟨(gw (List.mem_append_right _ (List.mem_append_right _ (List.mem_append_right _ (List.mem_append_right _ (List.mem_append_right _ (List.mem_append_left _ (List.mem_of_getElem? (l := tables_1_5) (i := 174) rfl))))))) rfl), ini_14, by decide +kernel, by decide +kernel⟩
set_option maxRecDepth 100000 in
theorem mi_183 : Jvm.Cond.instanceMethod pm_183.2.1 ∈ gtb ∧ Jvm.Cond.selects pm_183.2.1.cls pm_183.2.1 pm_183.2.1 ∈ gtb := ⟨(gw (List.mem_append_right _ (List.mem_append_right _ (List.mem_append_right _ (List.mem_append_right _ (List.mem_append_right _ (List.mem_append_left _ (List.mem_of_getElem? (l := tables_1_5) (i := 173) rfl))))))) rfl), (gw (List.mem_append_left _ (List.mem_of_getElem? (i := 30) rfl)) rfl)⟩
set_option maxRecDepth 100000 in
theorem ml_204 : MPr [14, 91, 1, 183, 1, 0, 9] := ⟨"OneAtATimeModel", pm_183, ("OneAtATimeModel", kT9, 29), rfl, rfl, rfl, rfl, (gw (List.mem_append_right _ (List.mem_append_right _ (List.mem_append_right _ (List.mem_append_right _ (List.mem_append_right _ (List.mem_append_left _ (List.mem_of_getElem? (l := tables_1_5) (i := 171) rfl))))))) rfl), mi_183, mf_183, rfl, Nat.le_of_ble_eq_true rfl⟩
set_option maxRecDepth 100000 in
theorem mf_188 : MFr pm_188 0 := ⟨(gw (List.mem_append_right _ (List.mem_append_right _ (List.mem_append_right _ (List.mem_append_right _ (List.mem_append_right _ (List.mem_append_left _ (List.mem_of_getElem? (l := tables_1_5) (i := 194) rfl))))))) rfl), ini_14, by decide +kernel, by decide +kernel⟩
set_option maxRecDepth 100000 in
theorem mi_188 : Jvm.Cond.instanceMethod pm_188.2.1 ∈ gtb ∧ Jvm.Cond.selects pm_188.2.1.cls pm_188.2.1 pm_188.2.1 ∈ gtb := ⟨(gw (List.mem_append_right _ (List.mem_append_right _ (List.mem_append_right _ (List.mem_append_right _ (List.mem_append_right _ (List.mem_append_left _ (List.mem_of_getElem? (l := tables_1_5) (i := 193) rfl))))))) rfl), (gw (List.mem_append_left _ (List.mem_of_getElem? (i := 32) rfl)) rfl)⟩
set_option maxRecDepth 100000 in
theorem ml_205 : MPr [14, 145, 1, 188, 1, 0, 9] := ⟨"OneAtATimeModel", pm_188, ("OneAtATimeModel", kT9, 29), rfl, rfl, rfl, rfl, (gw (List.mem_append_right _ (List.mem_append_right _ (List.mem_append_right _ (List.mem_append_right _ (List.mem_append_right _ (List.mem_append_left _ (List.mem_of_getElem? (l := tables_1_5) (i := 191) rfl))))))) rfl), mi_188, mf_188, rfl, Nat.le_of_ble_eq_true rfl⟩
set_option maxRecDepth 100000 in
theorem mf_190 : MFr pm_190 1 := ⟨(gw (List.mem_append_right _ (List.mem_append_right _ (List.mem_append_right _ (List.mem_append_right _ (List.mem_append_right _ (List.mem_append_left _ (List.mem_of_getElem? (l := tables_1_5) (i := 204) rfl))))))) rfl), ini_14, by decide +kernel, by decide +kernel⟩
set_option maxRecDepth 100000 in
theorem mi_190 : Jvm.Cond.instanceMethod pm_190.2.1 ∈ gtb ∧ Jvm.Cond.selects pm_190.2.1.cls pm_190.2.1 pm_190.2.1 ∈ gtb := ⟨(gw (List.mem_append_right _ (List.mem_append_right _ (List.mem_append_right _ (List.mem_append_right _ (List.mem_append_right _ (List.mem_append_left _ (List.mem_of_getElem? (l := tables_1_5) (i := 203) rfl))))))) rfl), (gw (List.mem_append_left _ (List.mem_of_getElem? (i := 34) rfl)) rfl)⟩
set_option maxRecDepth 100000 in
theorem ml_206 : MPr [14, 163, 1, 190, 2, 1, 9] := ⟨"OneAtATimeModel", pm_190, ("OneAtATimeModel", kT9, 29), rfl, rfl, rfl, rfl, (gw (List.mem_append_right _ (List.mem_append_right _ (List.mem_append_right _ (List.mem_append_right _ (List.mem_append_right _ (List.mem_append_left _ (List.mem_of_getElem? (l := tables_1_5) (i := 201) rfl))))))) rfl), mi_190, mf_190, rfl, Nat.le_of_ble_eq_true rfl⟩
set_option maxRecDepth 100000 in
theorem mf_191 : MFr pm_191 1 := ⟨(gw (List.mem_append_right _ (List.mem_append_right _ (List.mem_append_right _ (List.mem_append_right _ (List.mem_append_right _ (List.mem_append_left _ (List.mem_of_getElem? (l := tables_1_5) (i := 210) rfl))))))) rfl), ini_14, by decide +kernel, by decide +kernel⟩
set_option maxRecDepth 100000 in
theorem mi_191 : Jvm.Cond.instanceMethod pm_191.2.1 ∈ gtb ∧ Jvm.Cond.selects pm_191.2.1.cls pm_191.2.1 pm_191.2.1 ∈ gtb := ⟨(gw (List.mem_append_right _ (List.mem_append_right _ (List.mem_append_right _ (List.mem_append_right _ (List.mem_append_right _ (List.mem_append_left _ (List.mem_of_getElem? (l := tables_1_5) (i := 209) rfl))))))) rfl), (gw (List.mem_append_left _ (List.mem_of_getElem? (i := 35) rfl)) rfl)⟩
set_option maxRecDepth 100000 in
theorem ml_207 : MPr [14, 158, 1, 191, 2, 0, 9] := ⟨"OneAtATimeModel", pm_191, ("OneAtATimeModel", kT9, 29), rfl, rfl, rfl, rfl, (gw (List.mem_append_right _ (List.mem_append_right _ (List.mem_append_right _ (List.mem_append_right _ (List.mem_append_right _ (List.mem_append_left _ (List.mem_of_getElem? (l := tables_1_5) (i := 207) rfl))))))) rfl), mi_191, mf_191, rfl, Nat.le_of_ble_eq_true rfl⟩
set_option maxRecDepth 100000 in
theorem mf_193 : MFr pm_193 2 := ⟨(gw (List.mem_append_right _ (List.mem_append_right _ (List.mem_append_right _ (List.mem_append_right _ (List.mem_append_right _ (List.mem_append_left _ (List.mem_of_getElem? (l := tables_1_5) (i := 218) rfl))))))) rfl), ini_14, by decide +kernel, by decide +kernel⟩
set_option maxRecDepth 100000 in
theorem mi_193 : Jvm.Cond.instanceMethod pm_193.2.1 ∈ gtb ∧ Jvm.Cond.selects pm_193.2.1.cls pm_193.2.1 pm_193.2.1 ∈ gtb := ⟨(gw (List.mem_append_right _ (List.mem_append_right _ (List.mem_append_right _ (List.mem_append_right _ (List.mem_append_right _ (List.mem_append_left _ (List.mem_of_getElem? (l := tables_1_5) (i := 217) rfl))))))) rfl), (gw (List.mem_append_left _ (List.mem_of_getElem? (i := 37) rfl)) rfl)⟩
set_option maxRecDepth 100000 in
theorem ml_208 : MPr [14, 167, 1, 193, 3, 1, 9] := ⟨"OneAtATimeModel", pm_193, ("OneAtATimeModel", kT9, 29), rfl, rfl, rfl, rfl, (gw (List.mem_append_right _ (List.mem_append_right _ (List.mem_append_right _ (List.mem_append_right _ (List.mem_append_right _ (List.mem_append_left _ (List.mem_of_getElem? (l := tables_1_5) (i := 215) rfl))))))) rfl), mi_193, mf_193, rfl, Nat.le_of_ble_eq_true rfl⟩
set_option maxRecDepth 100000 in
theorem mf_194 : MFr pm_194 1 := ⟨(gw (List.mem_append_right _ (List.mem_append_right _ (List.mem_append_right _ (List.mem_append_right _ (List.mem_append_right _ (List.mem_append_left _ (List.mem_of_getElem? (l := tables_1_5) (i := 225) rfl))))))) rfl), ini_14, by decide +kernel, by decide +kernel⟩
set_option maxRecDepth 100000 in
theorem mi_194 : Jvm.Cond.instanceMethod pm_194.2.1 ∈ gtb ∧ Jvm.Cond.selects pm_194.2.1.cls pm_194.2.1 pm_194.2.1 ∈ gtb := ⟨(gw (List.mem_append_right _ (List.mem_append_right _ (List.mem_append_right _ (List.mem_append_right _ (List.mem_append_right _ (List.mem_append_left _ (List.mem_of_getElem? (l := tables_1_5) (i := 224) rfl))))))) rfl), (gw (List.mem_append_left _ (List.mem_of_getElem? (i := 38) rfl)) rfl)⟩
set_option maxRecDepth 100000 in
theorem ml_209 : MPr [14, 176, 1, 194, 2, 0, 9] := ⟨"OneAtATimeModel", pm_194, ("OneAtATimeModel", kT9, 29), rfl, rfl, rfl, rfl, (gw (List.mem_append_right _ (List.mem_append_right _ (List.mem_append_right _ (List.mem_append_right _ (List.mem_append_right _ (List.mem_append_left _ (List.mem_of_getElem? (l := tables_1_5) (i := 222) rfl))))))) rfl), mi_194, mf_194, rfl, Nat.le_of_ble_eq_true rfl⟩
set_option maxRecDepth 100000 in
theorem mf_195 : MFr pm_195 1 := ⟨(gw (List.mem_append_right _ (List.mem_append_right _ (List.mem_append_right _ (List.mem_append_right _ (List.mem_append_right _ (List.mem_append_left _ (List.mem_of_getElem? (l := tables_1_5) (i := 229) rfl))))))) rfl), ini_14, by decide +kernel, by decide +kernel⟩
set_option maxRecDepth 100000 in
theorem mi_195 : Jvm.Cond.instanceMethod pm_195.2.1 ∈ gtb ∧ Jvm.Cond.selects pm_195.2.1.cls pm_195.2.1 pm_195.2.1 ∈ gtb := ⟨(gw (List.mem_append_right _ (List.mem_append_right _ (List.mem_append_right _ (List.mem_append_right _ (List.mem_append_right _ (List.mem_append_left _ (List.mem_of_getElem? (l := tables_1_5) (i := 228) rfl))))))) rfl), (gw (List.mem_append_left _ (List.mem_of_getElem? (i := 39) rfl)) rfl)⟩
set_option maxRecDepth 100000 in
theorem ml_210 : MPr [14, 179, 1, 195, 2, 0, 9] := ⟨"OneAtATimeModel", pm_195, ("OneAtATimeModel", kT9, 29), rfl, rfl, rfl, rfl, (gw (List.mem_append_right _ (List.mem_append_right _ (List.mem_append_right _ (List.mem_append_right _ (List.mem_append_right _ (List.mem_append_left _ (List.mem_of_getElem? (l := tables_1_5) (i := 226) rfl))))))) rfl), mi_195, mf_195, rfl, Nat.le_of_ble_eq_true rfl⟩
set_option maxRecDepth 100000 in
theorem mf_197 : MFr pm_197 1 := ⟨(gw (List.mem_append_right _ (List.mem_append_right _ (List.mem_append_right _ (List.mem_append_right _ (List.mem_append_right _ (List.mem_append_left _ (List.mem_of_getElem? (l := tables_1_5) (i := 237) rfl))))))) rfl), ini_14, by decide +kernel, by decide +kernel⟩
set_option maxRecDepth 100000 in
theorem mi_197 : Jvm.Cond.instanceMethod pm_197.2.1 ∈ gtb ∧ Jvm.Cond.selects pm_197.2.1.cls pm_197.2.1 pm_197.2.1 ∈ gtb := ⟨(gw (List.mem_append_right _ (List.mem_append_right _ (List.mem_append_right _ (List.mem_append_right _ (List.mem_append_right _ (List.mem_append_left _ (List.mem_of_getElem? (l := tables_1_5) (i := 236) rfl))))))) rfl), (gw (List.mem_append_left _ (List.mem_of_getElem? (i := 41) rfl)) rfl)⟩
set_option maxRecDepth 100000 in
theorem ml_211 : MPr [14, 98, 1, 197, 2, 1, 9] := ⟨"OneAtATimeModel", pm_197, ("OneAtATimeModel", kT9, 29), rfl, rfl, rfl, rfl, (gw (List.mem_append_right _ (List.mem_append_right _ (List.mem_append_right _ (List.mem_append_right _ (List.mem_append_right _ (List.mem_append_left _ (List.mem_of_getElem? (l := tables_1_5) (i := 234) rfl))))))) rfl), mi_197, mf_197, rfl, Nat.le_of_ble_eq_true rfl⟩
set_option maxRecDepth 100000 in
theorem mf_189 : MFr pm_189 2 := ⟨(gw (List.mem_append_right _ (List.mem_append_right _ (List.mem_append_right _ (List.mem_append_right _ (List.mem_append_right _ (List.mem_append_left _ (List.mem_of_getElem? (l := tables_1_5) (i := 198) rfl))))))) rfl), ini_14, by decide +kernel, by decide +kernel⟩
set_option maxRecDepth 100000 in
theorem mi_189 : Jvm.Cond.instanceMethod pm_189.2.1 ∈ gtb ∧ Jvm.Cond.selects pm_189.2.1.cls pm_189.2.1 pm_189.2.1 ∈ gtb := ⟨(gw (List.mem_append_right _ (List.mem_append_right _ (List.mem_append_right _ (List.mem_append_right _ (List.mem_append_right _ (List.mem_append_left _ (List.mem_of_getElem? (l := tables_1_5) (i := 197) rfl))))))) rfl), (gw (List.mem_append_left _ (List.mem_of_getElem? (i := 33) rfl)) rfl)⟩
set_option maxRecDepth 100000 in
theorem ml_212 : MPr [14, 117, 1, 189, 3, 1, 9] := ⟨"OneAtATimeModel", pm_189, ("OneAtATimeModel", kT9, 29), rfl, rfl, rfl, rfl, (gw (List.mem_append_right _ (List.mem_append_right _ (List.mem_append_right _ (List.mem_append_right _ (List.mem_append_right _ (List.mem_append_left _ (List.mem_of_getElem? (l := tables_1_5) (i := 195) rfl))))))) rfl), mi_189, mf_189, rfl, Nat.le_of_ble_eq_true rfl⟩
set_option maxRecDepth 100000 in
theorem ml_213 : MPr [14, 129, 0, 1005, 2, 1, 0] := ⟨"OneAtATimeModel", rfl, (gw (List.mem_append_right _ (List.mem_append_right _ (List.mem_append_right _ (List.mem_append_right _ (List.mem_append_right _ (List.mem_append_left _ (List.mem_of_getElem? (l := tables_1_5) (i := 199) rfl))))))) rfl), mw_1005⟩
set_option maxRecDepth 100000 in
theorem ml_214 : MPr [14, 148, 1, 1000, 1, 1, 30] := ⟨"OneAtATimeModel", rfl, (gw (List.mem_append_right _ (List.mem_append_right _ (List.mem_append_right _ (List.mem_append_right _ (List.mem_append_right _ (List.mem_append_left _ (List.mem_of_getElem? (l := tables_1_5) (i := 205) rfl))))))) rfl)⟩
set_option maxRecDepth 100000 in
theorem ml_215 : MPr [14, 154, 1, 1001, 2, 1, 30] := ⟨"OneAtATimeModel", rfl, (gw (List.mem_append_right _ (List.mem_append_right _ (List.mem_append_right _ (List.mem_append_right _ (List.mem_append_right _ (List.mem_append_left _ (List.mem_of_getElem? (l := tables_1_5) (i := 206) rfl))))))) rfl)⟩
set_option maxRecDepth 100000 in
theorem mf_192 : MFr pm_192 2 := ⟨(gw (List.mem_append_right _ (List.mem_append_right _ (List.mem_append_right _ (List.mem_append_right _ (List.mem_append_right _ (List.mem_append_left _ (List.mem_of_getElem? (l := tables_1_5) (i := 214) rfl))))))) rfl), ini_14, by decide +kernel, by decide +kernel⟩
set_option maxRecDepth 100000 in
theorem mi_192 : Jvm.Cond.instanceMethod pm_192.2.1 ∈ gtb ∧ Jvm.Cond.selects pm_192.2.1.cls pm_192.2.1 pm_192.2.1 ∈ gtb := ⟨(gw (List.mem_append_right _ (List.mem_append_right _ (List.mem_append_right _ (List.mem_append_right _ (List.mem_append_right _ (List.mem_append_left _ (List.mem_of_getElem? (l := tables_1_5) (i := 213) rfl))))))) rfl), (gw (List.mem_append_left _ (List.mem_of_getElem? (i := 36) rfl)) rfl)⟩
set_option maxRecDepth 100000 in
theorem ml_216 : MPr [14, 141, 1, 192, 3, 0, 9] := ⟨"OneAtATimeModel", pm_192, ("OneAtATimeModel", kT9, 29), rfl, rfl, rfl, rfl, (gw (List.mem_append_right _ (List.mem_append_right _ (List.mem_append_right _ (List.mem_append_right _ (List.mem_append_right _ (List.mem_append_left _ (List.mem_of_getElem? (l := tables_1_5) (i := 211) rfl))))))) rfl), mi_192, mf_192, rfl, Nat.le_of_ble_eq_true rfl⟩
set_option maxRecDepth 100000 in
theorem mf_196 : MFr pm_196 1 := ⟨(gw (List.mem_append_right _ (List.mem_append_right _ (List.mem_append_right _ (List.mem_append_right _ (List.mem_append_right _ (List.mem_append_left _ (List.mem_of_getElem? (l := tables_1_5) (i := 233) rfl))))))) rfl), ini_14, by decide +kernel, by decide +kernel⟩
set_option maxRecDepth 100000 in
theorem mi_196 : Jvm.Cond.instanceMethod pm_196.2.1 ∈ gtb ∧ Jvm.Cond.selects pm_196.2.1.cls pm_196.2.1 pm_196.2.1 ∈ gtb := ⟨(gw (List.mem_append_right _ (List.mem_append_right _ (List.mem_append_right _ (List.mem_append_right _ (List.mem_append_right _ (List.mem_append_left _ (List.mem_of_getElem? (l := tables_1_5) (i := 232) rfl))))))) rfl), (gw (List.mem_append_left _ (List.mem_of_getElem? (i := 40) rfl)) rfl)⟩
set_option maxRecDepth 100000 in
theorem ml_217 : MPr [14, 107, 1, 196, 2, 0, 9] := ⟨"OneAtATimeModel", pm_196, ("OneAtATimeModel", kT9, 29), rfl, rfl, rfl, rfl, (gw (List.mem_append_right _ (List.mem_append_right _ (List.mem_append_right _ (List.mem_append_right _ (List.mem_append_right _ (List.mem_append_left _ (List.mem_of_getElem? (l := tables_1_5) (i := 230) rfl))))))) rfl), mi_196, mf_196, rfl, Nat.le_of_ble_eq_true rfl⟩
set_option maxRecDepth 100000 in
theorem mf_201 : MFr pm_201 2 := ⟨(gw (List.mem_append_right _ (List.mem_append_right _ (List.mem_append_right _ (List.mem_append_right _ (List.mem_append_right _ (List.mem_append_right _ (List.mem_append_left _ (List.mem_of_getElem? (l := tables_1_6) (i := 14) rfl)))))))) rfl), ini_14, by decide +kernel, by decide +kernel⟩
set_option maxRecDepth 100000 in
theorem mi_201 : Jvm.Cond.instanceMethod pm_201.2.1 ∈ gtb ∧ Jvm.Cond.selects pm_201.2.1.cls pm_201.2.1 pm_201.2.1 ∈ gtb := ⟨(gw (List.mem_append_right _ (List.mem_append_right _ (List.mem_append_right _ (List.mem_append_right _ (List.mem_append_right _ (List.mem_append_right _ (List.mem_append_left _ (List.mem_of_getElem? (l := tables_1_6) (i := 13) rfl)))))))) rfl), (gw (List.mem_append_left _ (List.mem_of_getElem? (i := 42) rfl)) rfl)⟩
set_option maxRecDepth 100000 in
theorem ml_218 : MPr [14, 226, 1, 201, 3, 1, 9] := ⟨"OneAtATimeModel", pm_201, ("OneAtATimeModel", kT9, 29), rfl, rfl, rfl, rfl, (gw (List.mem_append_right _ (List.mem_append_right _ (List.mem_append_right _ (List.mem_append_right _ (List.mem_append_right _ (List.mem_append_right _ (List.mem_append_left _ (List.mem_of_getElem? (l := tables_1_6) (i := 11) rfl)))))))) rfl), mi_201, mf_201, rfl, Nat.le_of_ble_eq_true rfl⟩
set_option maxRecDepth 100000 in
theorem mf_202 : MFr pm_202 1 := ⟨(gw (List.mem_append_right _ (List.mem_append_right _ (List.mem_append_right _ (List.mem_append_right _ (List.mem_append_right _ (List.mem_append_right _ (List.mem_append_left _ (List.mem_of_getElem? (l := tables_1_6) (i := 18) rfl)))))))) rfl), ini_14, by decide +kernel, by decide +kernel⟩
set_option maxRecDepth 100000 in
theorem mi_202 : Jvm.Cond.instanceMethod pm_202.2.1 ∈ gtb ∧ Jvm.Cond.selects pm_202.2.1.cls pm_202.2.1 pm_202.2.1 ∈ gtb := ⟨(gw (List.mem_append_right _ (List.mem_append_right _ (List.mem_append_right _ (List.mem_append_right _ (List.mem_append_right _ (List.mem_append_right _ (List.mem_append_left _ (List.mem_of_getElem? (l := tables_1_6) (i := 17) rfl)))))))) rfl), (gw (List.mem_append_left _ (List.mem_of_getElem? (i := 43) rfl)) rfl)⟩
set_option maxRecDepth 100000 in
theorem ml_219 : MPr [14, 200, 1, 202, 2, 1, 9] := ⟨"OneAtATimeModel", pm_202, ("OneAtATimeModel", kT9, 29), rfl, rfl, rfl, rfl, (gw (List.mem_append_right _ (List.mem_append_right _ (List.mem_append_right _ (List.mem_append_right _ (List.mem_append_right _ (List.mem_append_right _ (List.mem_append_left _ (List.mem_of_getElem? (l := tables_1_6) (i := 15) rfl)))))))) rfl), mi_202, mf_202, rfl, Nat.le_of_ble_eq_true rfl⟩
set_option maxRecDepth 100000 in
theorem mf_206 : MFr pm_206 1 := ⟨(gw (List.mem_append_right _ (List.mem_append_right _ (List.mem_append_right _ (List.mem_append_right _ (List.mem_append_right _ (List.mem_append_right _ (List.mem_append_left _ (List.mem_of_getElem? (l := tables_1_6) (i := 34) rfl)))))))) rfl), ini_14, by decide +kernel, by decide +kernel⟩
set_option maxRecDepth 100000 in
theorem mi_206 : Jvm.Cond.instanceMethod pm_206.2.1 ∈ gtb ∧ Jvm.Cond.selects pm_206.2.1.cls pm_206.2.1 pm_206.2.1 ∈ gtb := ⟨(gw (List.mem_append_right _ (List.mem_append_right _ (List.mem_append_right _ (List.mem_append_right _ (List.mem_append_right _ (List.mem_append_right _ (List.mem_append_left _ (List.mem_of_getElem? (l := tables_1_6) (i := 33) rfl)))))))) rfl), (gw (List.mem_append_left _ (List.mem_of_getElem? (i := 47) rfl)) rfl)⟩
set_option maxRecDepth 100000 in
theorem ml_220 : MPr [14, 209, 1, 206, 2, 1, 9] := ⟨"OneAtATimeModel", pm_206, ("OneAtATimeModel", kT9, 29), rfl, rfl, rfl, rfl, (gw (List.mem_append_right _ (List.mem_append_right _ (List.mem_append_right _ (List.mem_append_right _ (List.mem_append_right _ (List.mem_append_right _ (List.mem_append_left _ (List.mem_of_getElem? (l := tables_1_6) (i := 31) rfl)))))))) rfl), mi_206, mf_206, rfl, Nat.le_of_ble_eq_true rfl⟩
set_option maxRecDepth 100000 in
theorem mf_210 : MFr pm_210 1 := ⟨(gw (List.mem_append_right _ (List.mem_append_right _ (List.mem_append_right _ (List.mem_append_right _ (List.mem_append_right _ (List.mem_append_right _ (List.mem_append_left _ (List.mem_of_getElem? (l := tables_1_6) (i := 49) rfl)))))))) rfl), ini_14, by decide +kernel, by decide +kernel⟩
set_option maxRecDepth 100000 in
theorem mi_210 : Jvm.Cond.instanceMethod pm_210.2.1 ∈ gtb ∧ Jvm.Cond.selects pm_210.2.1.cls pm_210.2.1 pm_210.2.1 ∈ gtb := ⟨(gw (List.mem_append_right _ (List.mem_append_right _ (List.mem_append_right _ (List.mem_append_right _ (List.mem_append_right _ (List.mem_append_right _ (List.mem_append_left _ (List.mem_of_getElem? (l := tables_1_6) (i := 48) rfl)))))))) rfl), (gw (List.mem_append_left _ (List.mem_of_getElem? (i := 50) rfl)) rfl)⟩
set_option maxRecDepth 100000 in
theorem ml_221 : MPr [14, 212, 1, 210, 2, 1, 9] := ⟨"OneAtATimeModel", pm_210, ("OneAtATimeModel", kT9, 29), rfl, rfl, rfl, rfl, (gw (List.mem_append_right _ (List.mem_append_right _ (List.mem_append_right _ (List.mem_append_right _ (List.mem_append_right _ (List.mem_append_right _ (List.mem_append_left _ (List.mem_of_getElem? (l := tables_1_6) (i := 46) rfl)))))))) rfl), mi_210, mf_210, rfl, Nat.le_of_ble_eq_true rfl⟩
set_option maxRecDepth 100000 in
theorem mf_211 : MFr pm_211 1 := ⟨(gw (List.mem_append_right _ (List.mem_append_right _ (List.mem_append_right _ (List.mem_append_right _ (List.mem_append_right _ (List.mem_append_right _ (List.mem_append_left _ (List.mem_of_getElem? (l := tables_1_6) (i := 54) rfl)))))))) rfl), ini_14, by decide +kernel, by decide +kernel⟩
set_option maxRecDepth 100000 in
theorem mi_211 : Jvm.Cond.instanceMethod pm_211.2.1 ∈ gtb ∧ Jvm.Cond.selects pm_211.2.1.cls pm_211.2.1 pm_211.2.1 ∈ gtb := ⟨(gw (List.mem_append_right _ (List.mem_append_right _ (List.mem_append_right _ (List.mem_append_right _ (List.mem_append_right _ (List.mem_append_right _ (List.mem_append_left _ (List.mem_of_getElem? (l := tables_1_6) (i := 53) rfl)))))))) rfl), (gw (List.mem_append_left _ (List.mem_of_getElem? (i := 51) rfl)) rfl)⟩
set_option maxRecDepth 100000 in
theorem ml_222 : MPr [14, 215, 1, 211, 2, 1, 9] := ⟨"OneAtATimeModel", pm_211, ("OneAtATimeModel", kT9, 29), rfl, rfl, rfl, rfl, (gw (List.mem_append_right _ (List.mem_append_right _ (List.mem_append_right _ (List.mem_append_right _ (List.mem_append_right _ (List.mem_append_right _ (List.mem_append_left _ (List.mem_of_getElem? (l := tables_1_6) (i := 51) rfl)))))))) rfl), mi_211, mf_211, rfl, Nat.le_of_ble_eq_true rfl⟩
set_option maxRecDepth 100000 in
theorem mf_213 : MFr pm_213 1 := ⟨(gw (List.mem_append_right _ (List.mem_append_right _ (List.mem_append_right _ (List.mem_append_right _ (List.mem_append_right _ (List.mem_append_right _ (List.mem_append_left _ (List.mem_of_getElem? (l := tables_1_6) (i := 62) rfl)))))))) rfl), ini_14, by decide +kernel, by decide +kernel⟩
set_option maxRecDepth 100000 in
theorem mi_213 : Jvm.Cond.instanceMethod pm_213.2.1 ∈ gtb ∧ Jvm.Cond.selects pm_213.2.1.cls pm_213.2.1 pm_213.2.1 ∈ gtb := ⟨(gw (List.mem_append_right _ (List.mem_append_right _ (List.mem_append_right _ (List.mem_append_right _ (List.mem_append_right _ (List.mem_append_right _ (List.mem_append_left _ (List.mem_of_getElem? (l := tables_1_6) (i := 61) rfl)))))))) rfl), (gw (List.mem_append_left _ (List.mem_of_getElem? (i := 53) rfl)) rfl)⟩
set_option maxRecDepth 100000 in
theorem ml_223 : MPr [14, 218, 1, 213, 2, 1, 9] := ⟨"OneAtATimeModel", pm_213, ("OneAtATimeModel", kT9, 29), rfl, rfl, rfl, rfl, (gw (List.mem_append_right _ (List.mem_append_right _ (List.mem_append_right _ (List.mem_append_right _ (List.mem_append_right _ (List.mem_append_right _ (List.mem_append_left _ (List.mem_of_getElem? (l := tables_1_6) (i := 59) rfl)))))))) rfl), mi_213, mf_213, rfl, Nat.le_of_ble_eq_true rfl⟩
set_option maxRecDepth 100000 in
theorem mf_214 : MFr pm_214 1 := ⟨(gw (List.mem_append_right _ (List.mem_append_right _ (List.mem_append_right _ (List.mem_append_right _ (List.mem_append_right _ (List.mem_append_right _ (List.mem_append_left _ (List.mem_of_getElem? (l := tables_1_6) (i := 66) rfl)))))))) rfl), ini_14, by decide +kernel, by decide +kernel⟩
set_option maxRecDepth 100000 in
theorem mi_214 : Jvm.Cond.instanceMethod pm_214.2.1 ∈ gtb ∧ Jvm.Cond.selects pm_214.2.1.cls pm_214.2.1 pm_214.2.1 ∈ gtb := ⟨(gw (List.mem_append_right _ (List.mem_append_right _ (List.mem_append_right _ (List.mem_append_right _ (List.mem_append_right _ (List.mem_append_right _ (List.mem_append_left _ (List.mem_of_getElem? (l := tables_1_6) (i := 65) rfl)))))))) rfl), (gw (List.mem_append_left _ (List.mem_of_getElem? (i := 54) rfl)) rfl)⟩
set_option maxRecDepth 100000 in
theorem ml_224 : MPr [14, 221, 1, 214, 2, 1, 9] := ⟨"OneAtATimeModel", pm_214, ("OneAtATimeModel", kT9, 29), rfl, rfl, rfl, rfl, (gw (List.mem_append_right _ (List.mem_append_right _ (List.mem_append_right _ (List.mem_append_right _ (List.mem_append_right _ (List.mem_append_right _ (List.mem_append_left _ (List.mem_of_getElem? (l := tables_1_6) (i := 63) rfl)))))))) rfl), mi_214, mf_214, rfl, Nat.le_of_ble_eq_true rfl⟩
set_option maxRecDepth 100000 in
theorem mf_203 : MFr pm_203 1 := ⟨(gw (List.mem_append_right _ (List.mem_append_right _ (List.mem_append_right _ (List.mem_append_right _ (List.mem_append_right _ (List.mem_append_right _ (List.mem_append_left _ (List.mem_of_getElem? (l := tables_1_6) (i := 22) rfl)))))))) rfl), ini_14, by decide +kernel, by decide +kernel⟩
set_option maxRecDepth 100000 in
theorem mi_203 : Jvm.Cond.instanceMethod pm_203.2.1 ∈ gtb ∧ Jvm.Cond.selects pm_203.2.1.cls pm_203.2.1 pm_203.2.1 ∈ gtb := ⟨(gw (List.mem_append_right _ (List.mem_append_right _ (List.mem_append_right _ (List.mem_append_right _ (List.mem_append_right _ (List.mem_append_right _ (List.mem_append_left _ (List.mem_of_getElem? (l := tables_1_6) (i := 21) rfl)))))))) rfl), (gw (List.mem_append_left _ (List.mem_of_getElem? (i := 44) rfl)) rfl)⟩
set_option maxRecDepth 100000 in
theorem ml_225 : MPr [14, 191, 1, 203, 2, 0, 9] := ⟨"OneAtATimeModel", pm_203, ("OneAtATimeModel", kT9, 29), rfl, rfl, rfl, rfl, (gw (List.mem_append_right _ (List.mem_append_right _ (List.mem_append_right _ (List.mem_append_right _ (List.mem_append_right _ (List.mem_append_right _ (List.mem_append_left _ (List.mem_of_getElem? (l := tables_1_6) (i := 19) rfl)))))))) rfl), mi_203, mf_203, rfl, Nat.le_of_ble_eq_true rfl⟩
set_option maxRecDepth 100000 in
theorem mf_204 : MFr pm_204 1 := ⟨(gw (List.mem_append_right _ (List.mem_append_right _ (List.mem_append_right _ (List.mem_append_right _ (List.mem_append_right _ (List.mem_append_right _ (List.mem_append_left _ (List.mem_of_getElem? (l := tables_1_6) (i := 26) rfl)))))))) rfl), ini_14, by decide +kernel, by decide +kernel⟩
set_option maxRecDepth 100000 in
theorem mi_204 : Jvm.Cond.instanceMethod pm_204.2.1 ∈ gtb ∧ Jvm.Cond.selects pm_204.2.1.cls pm_204.2.1 pm_204.2.1 ∈ gtb := ⟨(gw (List.mem_append_right _ (List.mem_append_right _ (List.mem_append_right _ (List.mem_append_right _ (List.mem_append_right _ (List.mem_append_right _ (List.mem_append_left _ (List.mem_of_getElem? (l := tables_1_6) (i := 25) rfl)))))))) rfl), (gw (List.mem_append_left _ (List.mem_of_getElem? (i := 45) rfl)) rfl)⟩
set_option maxRecDepth 100000 in
theorem ml_226 : MPr [14, 101, 1, 204, 2, 1, 9] := ⟨"OneAtATimeModel", pm_204, ("OneAtATimeModel", kT9, 29), rfl, rfl, rfl, rfl, (gw (List.mem_append_right _ (List.mem_append_right _ (List.mem_append_right _ (List.mem_append_right _ (List.mem_append_right _ (List.mem_append_right _ (List.mem_append_left _ (List.mem_of_getElem? (l := tables_1_6) (i := 23) rfl)))))))) rfl), mi_204, mf_204, rfl, Nat.le_of_ble_eq_true rfl⟩
set_option maxRecDepth 100000 in
theorem mf_205 : MFr pm_205 2 := ⟨(gw (List.mem_append_right _ (List.mem_append_right _ (List.mem_append_right _ (List.mem_append_right _ (List.mem_append_right _ (List.mem_append_right _ (List.mem_append_left _ (List.mem_of_getElem? (l := tables_1_6) (i := 30) rfl)))))))) rfl), ini_14, by decide +kernel, by decide +kernel⟩
set_option maxRecDepth 100000 in
theorem mi_205 : Jvm.Cond.instanceMethod pm_205.2.1 ∈ gtb ∧ Jvm.Cond.selects pm_205.2.1.cls pm_205.2.1 pm_205.2.1 ∈ gtb := ⟨(gw (List.mem_append_right _ (List.mem_append_right _ (List.mem_append_right _ (List.mem_append_right _ (List.mem_append_right _ (List.mem_append_right _ (List.mem_append_left _ (List.mem_of_getElem? (l := tables_1_6) (i := 29) rfl)))))))) rfl), (gw (List.mem_append_left _ (List.mem_of_getElem? (i := 46) rfl)) rfl)⟩
set_option maxRecDepth 100000 in
theorem ml_227 : MPr [14, 104, 1, 205, 3, 1, 9] := ⟨"OneAtATimeModel", pm_205, ("OneAtATimeModel", kT9, 29), rfl, rfl, rfl, rfl, (gw (List.mem_append_right _ (List.mem_append_right _ (List.mem_append_right _ (List.mem_append_right _ (List.mem_append_right _ (List.mem_append_right _ (List.mem_append_left _ (List.mem_of_getElem? (l := tables_1_6) (i := 27) rfl)))))))) rfl), mi_205, mf_205, rfl, Nat.le_of_ble_eq_true rfl⟩
set_option maxRecDepth 100000 in
theorem mf_207 : MFr pm_207 1 := ⟨(gw (List.mem_append_right _ (List.mem_append_right _ (List.mem_append_right _ (List.mem_append_right _ (List.mem_append_right _ (List.mem_append_right _ (List.mem_append_left _ (List.mem_of_getElem? (l := tables_1_6) (i := 38) rfl)))))))) rfl), ini_14, by decide +kernel, by decide +kernel⟩
set_option maxRecDepth 100000 in
theorem mi_207 : Jvm.Cond.instanceMethod pm_207.2.1 ∈ gtb ∧ Jvm.Cond.selects pm_207.2.1.cls pm_207.2.1 pm_207.2.1 ∈ gtb := ⟨(gw (List.mem_append_right _ (List.mem_append_right _ (List.mem_append_right _ (List.mem_append_right _ (List.mem_append_right _ (List.mem_append_right _ (List.mem_append_left _ (List.mem_of_getElem? (l := tables_1_6) (i := 37) rfl)))))))) rfl), (gw (List.mem_append_left _ (List.mem_of_getElem? (i := 48) rfl)) rfl)⟩
set_option maxRecDepth 100000 in
theorem ml_228 : MPr [14, 75, 1, 207, 2, 1, 9] := ⟨"OneAtATimeModel", pm_207, ("OneAtATimeModel", kT9, 29), rfl, rfl, rfl, rfl, (gw (List.mem_append_right _ (List.mem_append_right _ (List.mem_append_right _ (List.mem_append_right _ (List.mem_append_right _ (List.mem_append_right _ (List.mem_append_left _ (List.mem_of_getElem? (l := tables_1_6) (i := 35) rfl)))))))) rfl), mi_207, mf_207, rfl, Nat.le_of_ble_eq_true rfl⟩
set_option maxRecDepth 100000 in
theorem mf_208 : MFr pm_208 2 := ⟨(gw (List.mem_append_right _ (List.mem_append_right _ (List.mem_append_right _ (List.mem_append_right _ (List.mem_append_right _ (List.mem_append_right _ (List.mem_append_left _ (List.mem_of_getElem? (l := tables_1_6) (i := 42) rfl)))))))) rfl), ini_14, by decide +kernel, by decide +kernel⟩
set_option maxRecDepth 100000 in
theorem mi_208 : Jvm.Cond.instanceMethod pm_208.2.1 ∈ gtb ∧ Jvm.Cond.selects pm_208.2.1.cls pm_208.2.1 pm_208.2.1 ∈ gtb := ⟨(gw (List.mem_append_right _ (List.mem_append_right _ (List.mem_append_right _ (List.mem_append_right _ (List.mem_append_right _ (List.mem_append_right _ (List.mem_append_left _ (List.mem_of_getElem? (l := tables_1_6) (i := 41) rfl)))))))) rfl), (gw (List.mem_append_left _ (List.mem_of_getElem? (i := 49) rfl)) rfl)⟩
set_option maxRecDepth 100000 in
theorem ml_229 : MPr [14, 194, 1, 208, 3, 1, 9] := ⟨"OneAtATimeModel", pm_208, ("OneAtATimeModel", kT9, 29), rfl, rfl, rfl, rfl, (gw (List.mem_append_right _ (List.mem_append_right _ (List.mem_append_right _ (List.mem_append_right _ (List.mem_append_right _ (List.mem_append_right _ (List.mem_append_left _ (List.mem_of_getElem? (l := tables_1_6) (i := 39) rfl)))))))) rfl), mi_208, mf_208, rfl, Nat.le_of_ble_eq_true rfl⟩
set_option maxRecDepth 100000 in
theorem mf_209 : MFr pm_209 1 := ⟨(gw (List.mem_append_right _ (List.mem_append_right _ (List.mem_append_right _ (List.mem_append_right _ (List.mem_append_right _ (List.mem_append_right _ (List.mem_append_left _ (List.mem_of_getElem? (l := tables_1_6) (i := 45) rfl)))))))) rfl), ini_14, by decide +kernel, by decide +kernel⟩
set_option maxRecDepth 100000 in
theorem mi_209 : Jvm.Cond.static pm_209.2.1 ∈ gtb := (gw (List.mem_append_right _ (List.mem_append_right _ (List.mem_append_right _ (List.mem_append_right _ (List.mem_append_right _ (List.mem_append_right _ (List.mem_append_left _ (List.mem_of_getElem? (l := tables_1_6) (i := 44) rfl)))))))) rfl)
set_option maxRecDepth 100000 in
theorem ml_230 : MPr [14, 79, 0, 209, 1, 1, 0] := ⟨"OneAtATimeModel", pm_209, rfl, rfl, (gw (List.mem_append_right _ (List.mem_append_right _ (List.mem_append_right _ (List.mem_append_right _ (List.mem_append_right _ (List.mem_append_right _ (List.mem_append_left _ (List.mem_of_getElem? (l := tables_1_6) (i := 43) rfl)))))))) rfl), mi_209, mf_209, rfl, Nat.le_of_ble_eq_true rfl⟩
set_option maxRecDepth 100000 in
theorem ml_231 : MPr [14, 197, 0, 1004, 2, 1, 0] := ⟨"OneAtATimeModel", rfl, (gw (List.mem_append_right _ (List.mem_append_right _ (List.mem_append_right _ (List.mem_append_right _ (List.mem_append_right _ (List.mem_append_right _ (List.mem_append_left _ (List.mem_of_getElem? (l := tables_1_6) (i := 50) rfl)))))))) rfl), mw_1004⟩
set_option maxRecDepth 100000 in
theorem mf_212 : MFr pm_212 2 := ⟨(gw (List.mem_append_right _ (List.mem_append_right _ (List.mem_append_right _ (List.mem_append_right _ (List.mem_append_right _ (List.mem_append_right _ (List.mem_append_left _ (List.mem_of_getElem? (l := tables_1_6) (i := 58) rfl)))))))) rfl), ini_14, by decide +kernel, by decide +kernel⟩
set_option maxRecDepth 100000 in
theorem mi_212 : Jvm.Cond.instanceMethod pm_212.2.1 ∈ gtb ∧ Jvm.Cond.selects pm_212.2.1.cls pm_212.2.1 pm_212.2.1 ∈ gtb := ⟨(gw (List.mem_append_right _ (List.mem_append_right _ (List.mem_append_right _ (List.mem_append_right _ (List.mem_append_right _ (List.mem_append_right _ (List.mem_append_left _ (List.mem_of_getElem? (l := tables_1_6) (i := 57) rfl)))))))) rfl), (gw (List.mem_append_left _ (List.mem_of_getElem? (i := 52) rfl)) rfl)⟩
set_option maxRecDepth 100000 in
theorem ml_232 : MPr [14, 203, 1, 212, 3, 1, 9] := ⟨"OneAtATimeModel", pm_212, ("OneAtATimeModel", kT9, 29), rfl, rfl, rfl, rfl, (gw (List.mem_append_right _ (List.mem_append_right _ (List.mem_append_right _ (List.mem_append_right _ (List.mem_append_right _ (List.mem_append_right _ (List.mem_append_left _ (List.mem_of_getElem? (l := tables_1_6) (i := 55) rfl)))))))) rfl), mi_212, mf_212, rfl, Nat.le_of_ble_eq_true rfl⟩
set_option maxRecDepth 100000 in
theorem mf_215 : MFr pm_215 1 := ⟨(gw (List.mem_append_right _ (List.mem_append_right _ (List.mem_append_right _ (List.mem_append_right _ (List.mem_append_right _ (List.mem_append_right _ (List.mem_append_left _ (List.mem_of_getElem? (l := tables_1_6) (i := 70) rfl)))))))) rfl), ini_14, by decide +kernel, by decide +kernel⟩
set_option maxRecDepth 100000 in
theorem mi_215 : Jvm.Cond.instanceMethod pm_215.2.1 ∈ gtb ∧ Jvm.Cond.selects pm_215.2.1.cls pm_215.2.1 pm_215.2.1 ∈ gtb := ⟨(gw (List.mem_append_right _ (List.mem_append_right _ (List.mem_append_right _ (List.mem_append_right _ (List.mem_append_right _ (List.mem_append_right _ (List.mem_append_left _ (List.mem_of_getElem? (l := tables_1_6) (i := 69) rfl)))))))) rfl), (gw (List.mem_append_left _ (List.mem_of_getElem? (i := 55) rfl)) rfl)⟩
set_option maxRecDepth 100000 in
theorem ml_233 : MPr [14, 206, 1, 215, 2, 1, 9] := ⟨"OneAtATimeModel", pm_215, ("OneAtATimeModel", kT9, 29), rfl, rfl, rfl, rfl, (gw (List.mem_append_right _ (List.mem_append_right _ (List.mem_append_right _ (List.mem_append_right _ (List.mem_append_right _ (List.mem_append_right _ (List.mem_append_left _ (List.mem_of_getElem? (l := tables_1_6) (i := 67) rfl)))))))) rfl), mi_215, mf_215, rfl, Nat.le_of_ble_eq_true rfl⟩
set_option maxRecDepth 100000 in
theorem mf_216 : MFr pm_216 2 := ⟨(gw (List.mem_append_right _ (List.mem_append_right _ (List.mem_append_right _ (List.mem_append_right _ (List.mem_append_right _ (List.mem_append_right _ (List.mem_append_left _ (List.mem_of_getElem? (l := tables_1_6) (i := 73) rfl)))))))) rfl), ini_14, by decide +kernel, by decide +kernel⟩
set_option maxRecDepth 100000 in
theorem mi_216 : Jvm.Cond.static pm_216.2.1 ∈ gtb := (gw (List.mem_append_right _ (List.mem_append_right _ (List.mem_append_right _ (List.mem_append_right _ (List.mem_append_right _ (List.mem_append_right _ (List.mem_append_left _ (List.mem_of_getElem? (l := tables_1_6) (i := 72) rfl)))))))) rfl)
set_option maxRecDepth 100000 in
theorem ml_234 : MPr [14, 1, 0, 216, 2, 1, 0] := ⟨"OneAtATimeModel", pm_216, rfl, rfl, (gw (List.mem_append_right _ (List.mem_append_right _ (List.mem_append_right _ (List.mem_append_right _ (List.mem_append_right _ (List.mem_append_right _ (List.mem_append_left _ (List.mem_of_getElem? (l := tables_1_6) (i := 71) rfl)))))))) rfl), mi_216, mf_216, rfl, Nat.le_of_ble_eq_true rfl⟩
set_option maxRecDepth 100000 in
theorem mf_221 : MFr pm_221 2 := ⟨(gw (List.mem_append_right _ (List.mem_append_right _ (List.mem_append_right _ (List.mem_append_right _ (List.mem_append_right _ (List.mem_append_right _ (List.mem_append_left _ (List.mem_of_getElem? (l := tables_1_6) (i := 94) rfl)))))))) rfl), ini_14, by decide +kernel, by decide +kernel⟩
set_option maxRecDepth 100000 in
theorem mi_221 : Jvm.Cond.instanceMethod pm_221.2.1 ∈ gtb ∧ Jvm.Cond.selects pm_221.2.1.cls pm_221.2.1 pm_221.2.1 ∈ gtb := ⟨(gw (List.mem_append_right _ (List.mem_append_right _ (List.mem_append_right _ (List.mem_append_right _ (List.mem_append_right _ (List.mem_append_right _ (List.mem_append_left _ (List.mem_of_getElem? (l := tables_1_6) (i := 93) rfl)))))))) rfl), (gw (List.mem_append_left _ (List.mem_of_getElem? (i := 56) rfl)) rfl)⟩
set_option maxRecDepth 100000 in
theorem ml_235 : MPr [14, 231, 1, 221, 3, 1, 9] := ⟨"OneAtATimeModel", pm_221, ("OneAtATimeModel", kT9, 29), rfl, rfl, rfl, rfl, (gw (List.mem_append_right _ (List.mem_append_right _ (List.mem_append_right _ (List.mem_append_right _ (List.mem_append_right _ (List.mem_append_right _ (List.mem_append_left _ (List.mem_of_getElem? (l := tables_1_6) (i := 91) rfl)))))))) rfl), mi_221, mf_221, rfl, Nat.le_of_ble_eq_true rfl⟩
set_option maxRecDepth 100000 in
theorem mf_224 : MFr pm_224 2 := ⟨(gw (List.mem_append_right _ (List.mem_append_right _ (List.mem_append_right _ (List.mem_append_right _ (List.mem_append_right _ (List.mem_append_right _ (List.mem_append_left _ (List.mem_of_getElem? (l := tables_1_6) (i := 106) rfl)))))))) rfl), ini_14, by decide +kernel, by decide +kernel⟩
set_option maxRecDepth 100000 in
theorem mi_224 : Jvm.Cond.instanceMethod pm_224.2.1 ∈ gtb ∧ Jvm.Cond.selects pm_224.2.1.cls pm_224.2.1 pm_224.2.1 ∈ gtb := ⟨(gw (List.mem_append_right _ (List.mem_append_right _ (List.mem_append_right _ (List.mem_append_right _ (List.mem_append_right _ (List.mem_append_right _ (List.mem_append_left _ (List.mem_of_getElem? (l := tables_1_6) (i := 105) rfl)))))))) rfl), (gw (List.mem_append_left _ (List.mem_of_getElem? (i := 57) rfl)) rfl)⟩
set_option maxRecDepth 100000 in
theorem ml_236 : MPr [14, 234, 1, 224, 3, 1, 9] := ⟨"OneAtATimeModel", pm_224, ("OneAtATimeModel", kT9, 29), rfl, rfl, rfl, rfl, (gw (List.mem_append_right _ (List.mem_append_right _ (List.mem_append_right _ (List.mem_append_right _ (List.mem_append_right _ (List.mem_append_right _ (List.mem_append_left _ (List.mem_of_getElem? (l := tables_1_6) (i := 103) rfl)))))))) rfl), mi_224, mf_224, rfl, Nat.le_of_ble_eq_true rfl⟩
set_option maxRecDepth 100000 in
theorem mf_225 : MFr pm_225 2 := ⟨(gw (List.mem_append_right _ (List.mem_append_right _ (List.mem_append_right _ (List.mem_append_right _ (List.mem_append_right _ (List.mem_append_right _ (List.mem_append_left _ (List.mem_of_getElem? (l := tables_1_6) (i := 110) rfl)))))))) rfl), ini_14, by decide +kernel, by decide +kernel⟩
set_option maxRecDepth 100000 in
theorem mi_225 : Jvm.Cond.instanceMethod pm_225.2.1 ∈ gtb ∧ Jvm.Cond.selects pm_225.2.1.cls pm_225.2.1 pm_225.2.1 ∈ gtb := ⟨(gw (List.mem_append_right _ (List.mem_append_right _ (List.mem_append_right _ (List.mem_append_right _ (List.mem_append_right _ (List.mem_append_right _ (List.mem_append_left _ (List.mem_of_getElem? (l := tables_1_6) (i := 109) rfl)))))))) rfl), (gw (List.mem_append_left _ (List.mem_of_getElem? (i := 58) rfl)) rfl)⟩
set_option maxRecDepth 100000 in
theorem ml_237 : MPr [14, 237, 1, 225, 3, 1, 9] := ⟨"OneAtATimeModel", pm_225, ("OneAtATimeModel", kT9, 29), rfl, rfl, rfl, rfl, (gw (List.mem_append_right _ (List.mem_append_right _ (List.mem_append_right _ (List.mem_append_right _ (List.mem_append_right _ (List.mem_append_right _ (List.mem_append_left _ (List.mem_of_getElem? (l := tables_1_6) (i := 107) rfl)))))))) rfl), mi_225, mf_225, rfl, Nat.le_of_ble_eq_true rfl⟩
set_option maxRecDepth 100000 in
theorem mf_226 : MFr pm_226 2 := ⟨(gw (List.mem_append_right _ (List.mem_append_right _ (List.mem_append_right _ (List.mem_append_right _ (List.mem_append_right _ (List.mem_append_right _ (List.mem_append_left _ (List.mem_of_getElem? (l := tables_1_6) (i := 114) rfl)))))))) rfl), ini_14, by decide +kernel, by decide +kernel⟩
set_option maxRecDepth 100000 in
theorem mi_226 : Jvm.Cond.instanceMethod pm_226.2.1 ∈ gtb ∧ Jvm.Cond.selects pm_226.2.1.cls pm_226.2.1 pm_226.2.1 ∈ gtb := ⟨(gw (List.mem_append_right _ (List.mem_append_right _ (List.mem_append_right _ (List.mem_append_right _ (List.mem_append_right _ (List.mem_append_right _ (List.mem_append_left _ (List.mem_of_getElem? (l := tables_1_6) (i := 112) rfl)))))))) rfl), (gw (List.mem_append_right _ (List.mem_append_right _ (List.mem_append_right _ (List.mem_append_right _ (List.mem_append_right _ (List.mem_append_right _ (List.mem_append_left _ (List.mem_of_getElem? (l := tables_1_6) (i := 113) rfl)))))))) rfl)⟩
set_option maxRecDepth 100000 in
theorem ml_238 : MPr [14, 240, 1, 226, 3, 1, 9] := ⟨"OneAtATimeModel", pm_226, ("OneAtATimeModel", kT9, 29), rfl, rfl, rfl, rfl, (gw (List.mem_append_right _ (List.mem_append_right _ (List.mem_append_right _ (List.mem_append_right _ (List.mem_append_right _ (List.mem_append_right _ (List.mem_append_left _ (List.mem_of_getElem? (l := tables_1_6) (i := 119) rfl)))))))) rfl), mi_226, mf_226, rfl, Nat.le_of_ble_eq_true rfl⟩
set_option maxRecDepth 100000 in
theorem mf_229 : MFr pm_229 2 := ⟨(gw (List.mem_append_right _ (List.mem_append_right _ (List.mem_append_right _ (List.mem_append_right _ (List.mem_append_right _ (List.mem_append_right _ (List.mem_append_left _ (List.mem_of_getElem? (l := tables_1_6) (i := 127) rfl)))))))) rfl), ini_14, by decide +kernel, by decide +kernel⟩
set_option maxRecDepth 100000 in
theorem mi_229 : Jvm.Cond.instanceMethod pm_229.2.1 ∈ gtb ∧ Jvm.Cond.selects pm_229.2.1.cls pm_229.2.1 pm_229.2.1 ∈ gtb := ⟨(gw (List.mem_append_right _ (List.mem_append_right _ (List.mem_append_right _ (List.mem_append_right _ (List.mem_append_right _ (List.mem_append_right _ (List.mem_append_left _ (List.mem_of_getElem? (l := tables_1_6) (i := 126) rfl)))))))) rfl), (gw (List.mem_append_left _ (List.mem_of_getElem? (i := 59) rfl)) rfl)⟩
set_option maxRecDepth 100000 in
theorem ml_239 : MPr [14, 243, 1, 229, 3, 1, 9] := ⟨"OneAtATimeModel", pm_229, ("OneAtATimeModel", kT9, 29), rfl, rfl, rfl, rfl, (gw (List.mem_append_right _ (List.mem_append_right _ (List.mem_append_right _ (List.mem_append_right _ (List.mem_append_right _ (List.mem_append_right _ (List.mem_append_left _ (List.mem_of_getElem? (l := tables_1_6) (i := 124) rfl)))))))) rfl), mi_229, mf_229, rfl, Nat.le_of_ble_eq_true rfl⟩
set_option maxRecDepth 100000 in
theorem mf_231 : MFr pm_231 3 := ⟨(gw (List.mem_append_right _ (List.mem_append_right _ (List.mem_append_right _ (List.mem_append_right _ (List.mem_append_right _ (List.mem_append_right _ (List.mem_append_left _ (List.mem_of_getElem? (l := tables_1_6) (i := 135) rfl)))))))) rfl), ini_14, by decide +kernel, by decide +kernel⟩
set_option maxRecDepth 100000 in
theorem mi_231 : Jvm.Cond.instanceMethod pm_231.2.1 ∈ gtb ∧ Jvm.Cond.selects pm_231.2.1.cls pm_231.2.1 pm_231.2.1 ∈ gtb := ⟨(gw (List.mem_append_right _ (List.mem_append_right _ (List.mem_append_right _ (List.mem_append_right _ (List.mem_append_right _ (List.mem_append_right _ (List.mem_append_left _ (List.mem_of_getElem? (l := tables_1_6) (i := 134) rfl)))))))) rfl), (gw (List.mem_append_left _ (List.mem_of_getElem? (i := 60) rfl)) rfl)⟩
set_option maxRecDepth 100000 in
theorem ml_240 : MPr [14, 246, 1, 231, 4, 1, 9] := ⟨"OneAtATimeModel", pm_231, ("OneAtATimeModel", kT9, 29), rfl, rfl, rfl, rfl, (gw (List.mem_append_right _ (List.mem_append_right _ (List.mem_append_right _ (List.mem_append_right _ (List.mem_append_right _ (List.mem_append_right _ (List.mem_append_left _ (List.mem_of_getElem? (l := tables_1_6) (i := 132) rfl)))))))) rfl), mi_231, mf_231, rfl, Nat.le_of_ble_eq_true rfl⟩
set_option maxRecDepth 100000 in
theorem mf_238 : MFr pm_238 1 := ⟨(gw (List.mem_append_right _ (List.mem_append_right _ (List.mem_append_right _ (List.mem_append_right _ (List.mem_append_right _ (List.mem_append_right _ (List.mem_append_left _ (List.mem_of_getElem? (l := tables_1_6) (i := 163) rfl)))))))) rfl), ini_14, by decide +kernel, by decide +kernel⟩
set_option maxRecDepth 100000 in
theorem mi_238 : Jvm.Cond.instanceMethod pm_238.2.1 ∈ gtb ∧ Jvm.Cond.selects pm_238.2.1.cls pm_238.2.1 pm_238.2.1 ∈ gtb := ⟨(gw (List.mem_append_right _ (List.mem_append_right _ (List.mem_append_right _ (List.mem_append_right _ (List.mem_append_right _ (List.mem_append_right _ (List.mem_append_left _ (List.mem_of_getElem? (l := tables_1_6) (i := 162) rfl)))))))) rfl), (gw (List.mem_append_left _ (List.mem_of_getElem? (i := 61) rfl)) rfl)⟩
set_option maxRecDepth 100000 in
theorem ml_241 : MPr [14, 250, 1, 238, 2, 1, 9] := ⟨"OneAtATimeModel", pm_238, ("OneAtATimeModel", kT9, 29), rfl, rfl, rfl, rfl, (gw (List.mem_append_right _ (List.mem_append_right _ (List.mem_append_right _ (List.mem_append_right _ (List.mem_append_right _ (List.mem_append_right _ (List.mem_append_left _ (List.mem_of_getElem? (l := tables_1_6) (i := 160) rfl)))))))) rfl), mi_238, mf_238, rfl, Nat.le_of_ble_eq_true rfl⟩
set_option maxRecDepth 100000 in
theorem mf_243 : MFr pm_243 1 := ⟨(gw (List.mem_append_right _ (List.mem_append_right _ (List.mem_append_right _ (List.mem_append_right _ (List.mem_append_right _ (List.mem_append_right _ (List.mem_append_left _ (List.mem_of_getElem? (l := tables_1_6) (i := 182) rfl)))))))) rfl), ini_14, by decide +kernel, by decide +kernel⟩
set_option maxRecDepth 100000 in
theorem mi_243 : Jvm.Cond.static pm_243.2.1 ∈ gtb := (gw (List.mem_append_right _ (List.mem_append_right _ (List.mem_append_right _ (List.mem_append_right _ (List.mem_append_right _ (List.mem_append_right _ (List.mem_append_left _ (List.mem_of_getElem? (l := tables_1_6) (i := 181) rfl)))))))) rfl)
set_option maxRecDepth 100000 in
theorem ml_242 : MPr [14, 253, 0, 243, 1, 1, 0] := ⟨"OneAtATimeModel", pm_243, rfl, rfl, (gw (List.mem_append_right _ (List.mem_append_right _ (List.mem_append_right _ (List.mem_append_right _ (List.mem_append_right _ (List.mem_append_right _ (List.mem_append_left _ (List.mem_of_getElem? (l := tables_1_6) (i := 180) rfl)))))))) rfl), mi_243, mf_243, rfl, Nat.le_of_ble_eq_true rfl⟩
set_option maxRecDepth 100000 in
theorem mf_245 : MFr pm_245 3 := ⟨(gw (List.mem_append_right _ (List.mem_append_right _ (List.mem_append_right _ (List.mem_append_right _ (List.mem_append_right _ (List.mem_append_right _ (List.mem_append_left _ (List.mem_of_getElem? (l := tables_1_6) (i := 190) rfl)))))))) rfl), ini_14, by decide +kernel, by decide +kernel⟩
set_option maxRecDepth 100000 in
theorem mi_245 : Jvm.Cond.instanceMethod pm_245.2.1 ∈ gtb ∧ Jvm.Cond.selects pm_245.2.1.cls pm_245.2.1 pm_245.2.1 ∈ gtb := ⟨(gw (List.mem_append_right _ (List.mem_append_right _ (List.mem_append_right _ (List.mem_append_right _ (List.mem_append_right _ (List.mem_append_right _ (List.mem_append_left _ (List.mem_of_getElem? (l := tables_1_6) (i := 189) rfl)))))))) rfl), (gw (List.mem_append_left _ (List.mem_of_getElem? (i := 62) rfl)) rfl)⟩
set_option maxRecDepth 100000 in
theorem ml_243 : MPr [14, 256, 1, 245, 4, 1, 9] := ⟨"OneAtATimeModel", pm_245, ("OneAtATimeModel", kT9, 29), rfl, rfl, rfl, rfl, (gw (List.mem_append_right _ (List.mem_append_right _ (List.mem_append_right _ (List.mem_append_right _ (List.mem_append_right _ (List.mem_append_right _ (List.mem_append_left _ (List.mem_of_getElem? (l := tables_1_6) (i := 187) rfl)))))))) rfl), mi_245, mf_245, rfl, Nat.le_of_ble_eq_true rfl⟩
set_option maxRecDepth 100000 in
theorem mf_247 : MFr pm_247 0 := ⟨(gw (List.mem_append_right _ (List.mem_append_right _ (List.mem_append_right _ (List.mem_append_right _ (List.mem_append_right _ (List.mem_append_right _ (List.mem_append_left _ (List.mem_of_getElem? (l := tables_1_6) (i := 200) rfl)))))))) rfl), ini_14, by decide +kernel, by decide +kernel⟩
set_option maxRecDepth 100000 in
theorem mi_247 : Jvm.Cond.instanceMethod pm_247.2.1 ∈ gtb ∧ Jvm.Cond.selects pm_247.2.1.cls pm_247.2.1 pm_247.2.1 ∈ gtb := ⟨(gw (List.mem_append_right _ (List.mem_append_right _ (List.mem_append_right _ (List.mem_append_right _ (List.mem_append_right _ (List.mem_append_right _ (List.mem_append_left _ (List.mem_of_getElem? (l := tables_1_6) (i := 199) rfl)))))))) rfl), (gw (List.mem_append_left _ (List.mem_of_getElem? (i := 63) rfl)) rfl)⟩
set_option maxRecDepth 100000 in
theorem ml_244 : MPr [14, 280, 1, 247, 1, 0, 9] := ⟨"OneAtATimeModel", pm_247, ("OneAtATimeModel", kT9, 29), rfl, rfl, rfl, rfl, (gw (List.mem_append_right _ (List.mem_append_right _ (List.mem_append_right _ (List.mem_append_right _ (List.mem_append_right _ (List.mem_append_right _ (List.mem_append_left _ (List.mem_of_getElem? (l := tables_1_6) (i := 197) rfl)))))))) rfl), mi_247, mf_247, rfl, Nat.le_of_ble_eq_true rfl⟩
set_option maxRecDepth 100000 in
theorem mf_248 : MFr pm_248 4 := ⟨(gw (List.mem_append_right _ (List.mem_append_right _ (List.mem_append_right _ (List.mem_append_right _ (List.mem_append_right _ (List.mem_append_right _ (List.mem_append_left _ (List.mem_of_getElem? (l := tables_1_6) (i := 204) rfl)))))))) rfl), ini_14, by decide +kernel, by decide +kernel⟩
set_option maxRecDepth 100000 in
theorem mi_248 : Jvm.Cond.instanceMethod pm_248.2.1 ∈ gtb ∧ Jvm.Cond.selects pm_248.2.1.cls pm_248.2.1 pm_248.2.1 ∈ gtb := ⟨(gw (List.mem_append_right _ (List.mem_append_right _ (List.mem_append_right _ (List.mem_append_right _ (List.mem_append_right _ (List.mem_append_right _ (List.mem_append_left _ (List.mem_of_getElem? (l := tables_1_6) (i := 203) rfl)))))))) rfl), (gw (List.mem_append_left _ (List.mem_of_getElem? (i := 64) rfl)) rfl)⟩
set_option maxRecDepth 100000 in
theorem ml_245 : MPr [14, 272, 1, 248, 5, 1, 9] := ⟨"OneAtATimeModel", pm_248, ("OneAtATimeModel", kT9, 29), rfl, rfl, rfl, rfl, (gw (List.mem_append_right _ (List.mem_append_right _ (List.mem_append_right _ (List.mem_append_right _ (List.mem_append_right _ (List.mem_append_right _ (List.mem_append_left _ (List.mem_of_getElem? (l := tables_1_6) (i := 201) rfl)))))))) rfl), mi_248, mf_248, rfl, Nat.le_of_ble_eq_true rfl⟩
set_option maxRecDepth 100000 in
theorem mf_249 : MFr pm_249 2 := ⟨(gw (List.mem_append_right _ (List.mem_append_right _ (List.mem_append_right _ (List.mem_append_right _ (List.mem_append_right _ (List.mem_append_right _ (List.mem_append_left _ (List.mem_of_getElem? (l := tables_1_6) (i := 208) rfl)))))))) rfl), ini_14, by decide +kernel, by decide +kernel⟩
set_option maxRecDepth 100000 in
theorem mi_249 : Jvm.Cond.instanceMethod pm_249.2.1 ∈ gtb ∧ Jvm.Cond.selects pm_249.2.1.cls pm_249.2.1 pm_249.2.1 ∈ gtb := ⟨(gw (List.mem_append_right _ (List.mem_append_right _ (List.mem_append_right _ (List.mem_append_right _ (List.mem_append_right _ (List.mem_append_right _ (List.mem_append_left _ (List.mem_of_getElem? (l := tables_1_6) (i := 207) rfl)))))))) rfl), (gw (List.mem_append_left _ (List.mem_of_getElem? (i := 65) rfl)) rfl)⟩
set_option maxRecDepth 100000 in
theorem ml_246 : MPr [14, 266, 1, 249, 3, 1, 9] := ⟨"OneAtATimeModel", pm_249, ("OneAtATimeModel", kT9, 29), rfl, rfl, rfl, rfl, (gw (List.mem_append_right _ (List.mem_append_right _ (List.mem_append_right _ (List.mem_append_right _ (List.mem_append_right _ (List.mem_append_right _ (List.mem_append_left _ (List.mem_of_getElem? (l := tables_1_6) (i := 205) rfl)))))))) rfl), mi_249, mf_249, rfl, Nat.le_of_ble_eq_true rfl⟩
set_option maxRecDepth 100000 in
theorem mf_251 : MFr pm_251 1 := ⟨(gw (List.mem_append_right _ (List.mem_append_right _ (List.mem_append_right _ (List.mem_append_right _ (List.mem_append_right _ (List.mem_append_right _ (List.mem_append_left _ (List.mem_of_getElem? (l := tables_1_6) (i := 215) rfl)))))))) rfl), ini_14, by decide +kernel, by decide +kernel⟩
set_option maxRecDepth 100000 in
theorem mi_251 : Jvm.Cond.static pm_251.2.1 ∈ gtb := (gw (List.mem_append_right _ (List.mem_append_right _ (List.mem_append_right _ (List.mem_append_right _ (List.mem_append_right _ (List.mem_append_right _ (List.mem_append_left _ (List.mem_of_getElem? (l := tables_1_6) (i := 214) rfl)))))))) rfl)
set_option maxRecDepth 100000 in
theorem ml_247 : MPr [14, 290, 0, 251, 1, 1, 0] := ⟨"OneAtATimeModel", pm_251, rfl, rfl, (gw (List.mem_append_right _ (List.mem_append_right _ (List.mem_append_right _ (List.mem_append_right _ (List.mem_append_right _ (List.mem_append_right _ (List.mem_append_left _ (List.mem_of_getElem? (l := tables_1_6) (i := 213) rfl)))))))) rfl), mi_251, mf_251, rfl, Nat.le_of_ble_eq_true rfl⟩
set_option maxRecDepth 100000 in
theorem mf_252 : MFr pm_252 1 := ⟨(gw (List.mem_append_right _ (List.mem_append_right _ (List.mem_append_right _ (List.mem_append_right _ (List.mem_append_right _ (List.mem_append_right _ (List.mem_append_left _ (List.mem_of_getElem? (l := tables_1_6) (i := 219) rfl)))))))) rfl), ini_14, by decide +kernel, by decide +kernel⟩
set_option maxRecDepth 100000 in
theorem mi_252 : Jvm.Cond.instanceMethod pm_252.2.1 ∈ gtb ∧ Jvm.Cond.selects pm_252.2.1.cls pm_252.2.1 pm_252.2.1 ∈ gtb := ⟨(gw (List.mem_append_right _ (List.mem_append_right _ (List.mem_append_right _ (List.mem_append_right _ (List.mem_append_right _ (List.mem_append_right _ (List.mem_append_left _ (List.mem_of_getElem? (l := tables_1_6) (i := 218) rfl)))))))) rfl), (gw (List.mem_append_left _ (List.mem_of_getElem? (i := 66) rfl)) rfl)⟩
set_option maxRecDepth 100000 in
theorem ml_248 : MPr [14, 294, 1, 252, 2, 1, 9] := ⟨"OneAtATimeModel", pm_252, ("OneAtATimeModel", kT9, 29), rfl, rfl, rfl, rfl, (gw (List.mem_append_right _ (List.mem_append_right _ (List.mem_append_right _ (List.mem_append_right _ (List.mem_append_right _ (List.mem_append_right _ (List.mem_append_left _ (List.mem_of_getElem? (l := tables_1_6) (i := 216) rfl)))))))) rfl), mi_252, mf_252, rfl, Nat.le_of_ble_eq_true rfl⟩
set_option maxRecDepth 100000 in
theorem mf_253 : MFr pm_253 2 := ⟨(gw (List.mem_append_right _ (List.mem_append_right _ (List.mem_append_right _ (List.mem_append_right _ (List.mem_append_right _ (List.mem_append_right _ (List.mem_append_left _ (List.mem_of_getElem? (l := tables_1_6) (i := 223) rfl)))))))) rfl), ini_14, by decide +kernel, by decide +kernel⟩
set_option maxRecDepth 100000 in
theorem mi_253 : Jvm.Cond.instanceMethod pm_253.2.1 ∈ gtb ∧ Jvm.Cond.selects pm_253.2.1.cls pm_253.2.1 pm_253.2.1 ∈ gtb := ⟨(gw (List.mem_append_right _ (List.mem_append_right _ (List.mem_append_right _ (List.mem_append_right _ (List.mem_append_right _ (List.mem_append_right _ (List.mem_append_left _ (List.mem_of_getElem? (l := tables_1_6) (i := 222) rfl)))))))) rfl), (gw (List.mem_append_left _ (List.mem_of_getElem? (i := 67) rfl)) rfl)⟩
set_option maxRecDepth 100000 in
theorem ml_249 : MPr [14, 297, 1, 253, 3, 0, 9] := ⟨"OneAtATimeModel", pm_253, ("OneAtATimeModel", kT9, 29), rfl, rfl, rfl, rfl, (gw (List.mem_append_right _ (List.mem_append_right _ (List.mem_append_right _ (List.mem_append_right _ (List.mem_append_right _ (List.mem_append_right _ (List.mem_append_left _ (List.mem_of_getElem? (l := tables_1_6) (i := 220) rfl)))))))) rfl), mi_253, mf_253, rfl, Nat.le_of_ble_eq_true rfl⟩
set_option maxRecDepth 100000 in
theorem mf_254 : MFr pm_254 3 := ⟨(gw (List.mem_append_right _ (List.mem_append_right _ (List.mem_append_right _ (List.mem_append_right _ (List.mem_append_right _ (List.mem_append_right _ (List.mem_append_left _ (List.mem_of_getElem? (l := tables_1_6) (i := 227) rfl)))))))) rfl), ini_14, by decide +kernel, by decide +kernel⟩
set_option maxRecDepth 100000 in
theorem mi_254 : Jvm.Cond.instanceMethod pm_254.2.1 ∈ gtb ∧ Jvm.Cond.selects pm_254.2.1.cls pm_254.2.1 pm_254.2.1 ∈ gtb := ⟨(gw (List.mem_append_right _ (List.mem_append_right _ (List.mem_append_right _ (List.mem_append_right _ (List.mem_append_right _ (List.mem_append_right _ (List.mem_append_left _ (List.mem_of_getElem? (l := tables_1_6) (i := 226) rfl)))))))) rfl), (gw (List.mem_append_left _ (List.mem_of_getElem? (i := 68) rfl)) rfl)⟩
set_option maxRecDepth 100000 in
theorem ml_250 : MPr [14, 283, 1, 254, 4, 0, 9] := ⟨"OneAtATimeModel", pm_254, ("OneAtATimeModel", kT9, 29), rfl, rfl, rfl, rfl, (gw (List.mem_append_right _ (List.mem_append_right _ (List.mem_append_right _ (List.mem_append_right _ (List.mem_append_right _ (List.mem_append_right _ (List.mem_append_left _ (List.mem_of_getElem? (l := tables_1_6) (i := 224) rfl)))))))) rfl), mi_254, mf_254, rfl, Nat.le_of_ble_eq_true rfl⟩
set_option maxRecDepth 100000 in
theorem mf_255 : MFr pm_255 3 := ⟨(gw (List.mem_append_right _ (List.mem_append_right _ (List.mem_append_right _ (List.mem_append_right _ (List.mem_append_right _ (List.mem_append_right _ (List.mem_append_left _ (List.mem_of_getElem? (l := tables_1_6) (i := 231) rfl)))))))) rfl), ini_14, by decide +kernel, by decide +kernel⟩
set_option maxRecDepth 100000 in
theorem mi_255 : Jvm.Cond.instanceMethod pm_255.2.1 ∈ gtb ∧ Jvm.Cond.selects pm_255.2.1.cls pm_255.2.1 pm_255.2.1 ∈ gtb := ⟨(gw (List.mem_append_right _ (List.mem_append_right _ (List.mem_append_right _ (List.mem_append_right _ (List.mem_append_right _ (List.mem_append_right _ (List.mem_append_left _ (List.mem_of_getElem? (l := tables_1_6) (i := 230) rfl)))))))) rfl), (gw (List.mem_append_left _ (List.mem_of_getElem? (i := 69) rfl)) rfl)⟩
set_option maxRecDepth 100000 in
theorem ml_251 : MPr [14, 287, 1, 255, 4, 0, 9] := ⟨"OneAtATimeModel", pm_255, ("OneAtATimeModel", kT9, 29), rfl, rfl, rfl, rfl, (gw (List.mem_append_right _ (List.mem_append_right _ (List.mem_append_right _ (List.mem_append_right _ (List.mem_append_right _ (List.mem_append_right _ (List.mem_append_left _ (List.mem_of_getElem? (l := tables_1_6) (i := 228) rfl)))))))) rfl), mi_255, mf_255, rfl, Nat.le_of_ble_eq_true rfl⟩
set_option maxRecDepth 100000 in
theorem mf_257 : MFr pm_257 1 := ⟨(gw (List.mem_append_right _ (List.mem_append_right _ (List.mem_append_right _ (List.mem_append_right _ (List.mem_append_right _ (List.mem_append_right _ (List.mem_append_right _ (List.mem_of_getElem? (l := tables_1_7) (i := 2) rfl)))))))) rfl), ini_14, by decide +kernel, by decide +kernel⟩
set_option maxRecDepth 100000 in
theorem mi_257 : Jvm.Cond.instanceMethod pm_257.2.1 ∈ gtb ∧ Jvm.Cond.selects pm_257.2.1.cls pm_257.2.1 pm_257.2.1 ∈ gtb := ⟨(gw (List.mem_append_right _ (List.mem_append_right _ (List.mem_append_right _ (List.mem_append_right _ (List.mem_append_right _ (List.mem_append_right _ (List.mem_append_right _ (List.mem_of_getElem? (l := tables_1_7) (i := 1) rfl)))))))) rfl), (gw (List.mem_append_left _ (List.mem_of_getElem? (i := 70) rfl)) rfl)⟩
set_option maxRecDepth 100000 in
theorem ml_252 : MPr [14, 307, 1, 257, 2, 1, 9] := ⟨"OneAtATimeModel", pm_257, ("OneAtATimeModel", kT9, 29), rfl, rfl, rfl, rfl, (gw (List.mem_append_right _ (List.mem_append_right _ (List.mem_append_right _ (List.mem_append_right _ (List.mem_append_right _ (List.mem_append_right _ (List.mem_append_left _ (List.mem_of_getElem? (l := tables_1_6) (i := 239) rfl)))))))) rfl), mi_257, mf_257, rfl, Nat.le_of_ble_eq_true rfl⟩
set_option maxRecDepth 100000 in
theorem mf_261 : MFr pm_261 2 := ⟨(gw (List.mem_append_right _ (List.mem_append_right _ (List.mem_append_right _ (List.mem_append_right _ (List.mem_append_right _ (List.mem_append_right _ (List.mem_append_right _ (List.mem_of_getElem? (l := tables_1_7) (i := 17) rfl)))))))) rfl), ini_14, by decide +kernel, by decide +kernel⟩
set_option maxRecDepth 100000 in
theorem mi_261 : Jvm.Cond.static pm_261.2.1 ∈ gtb := (gw (List.mem_append_right _ (List.mem_append_right _ (List.mem_append_right _ (List.mem_append_right _ (List.mem_append_right _ (List.mem_append_right _ (List.mem_append_right _ (List.mem_of_getElem? (l := tables_1_7) (i := 16) rfl)))))))) rfl)
set_option maxRecDepth 100000 in
theorem ml_253 : MPr [14, 324, 0, 261, 2, 1, 0] := ⟨"OneAtATimeModel", pm_261, rfl, rfl, (gw (List.mem_append_right _ (List.mem_append_right _ (List.mem_append_right _ (List.mem_append_right _ (List.mem_append_right _ (List.mem_append_right _ (List.mem_append_right _ (List.mem_of_getElem? (l := tables_1_7) (i := 15) rfl)))))))) rfl), mi_261, mf_261, rfl, Nat.le_of_ble_eq_true rfl⟩
set_option maxRecDepth 100000 in
theorem mf_262 : MFr pm_262 2 := ⟨(gw (List.mem_append_right _ (List.mem_append_right _ (List.mem_append_right _ (List.mem_append_right _ (List.mem_append_right _ (List.mem_append_right _ (List.mem_append_right _ (List.mem_of_getElem? (l := tables_1_7) (i := 21) rfl)))))))) rfl), ini_14, by decide +kernel, by decide +kernel⟩
set_option maxRecDepth 100000 in
theorem mi_262 : Jvm.Cond.instanceMethod pm_262.2.1 ∈ gtb ∧ Jvm.Cond.selects pm_262.2.1.cls pm_262.2.1 pm_262.2.1 ∈ gtb := ⟨(gw (List.mem_append_right _ (List.mem_append_right _ (List.mem_append_right _ (List.mem_append_right _ (List.mem_append_right _ (List.mem_append_right _ (List.mem_append_right _ (List.mem_of_getElem? (l := tables_1_7) (i := 20) rfl)))))))) rfl), (gw (List.mem_append_left _ (List.mem_of_getElem? (i := 71) rfl)) rfl)⟩
set_option maxRecDepth 100000 in
theorem ml_254 : MPr [14, 313, 1, 262, 3, 1, 9] := ⟨"OneAtATimeModel", pm_262, ("OneAtATimeModel", kT9, 29), rfl, rfl, rfl, rfl, (gw (List.mem_append_right _ (List.mem_append_right _ (List.mem_append_right _ (List.mem_append_right _ (List.mem_append_right _ (List.mem_append_right _ (List.mem_append_right _ (List.mem_of_getElem? (l := tables_1_7) (i := 18) rfl)))))))) rfl), mi_262, mf_262, rfl, Nat.le_of_ble_eq_true rfl⟩
set_option maxRecDepth 100000 in
theorem mf_264 : MFr pm_264 3 := ⟨(gw (List.mem_append_right _ (List.mem_append_right _ (List.mem_append_right _ (List.mem_append_right _ (List.mem_append_right _ (List.mem_append_right _ (List.mem_append_right _ (List.mem_of_getElem? (l := tables_1_7) (i := 29) rfl)))))))) rfl), ini_14, by decide +kernel, by decide +kernel⟩
set_option maxRecDepth 100000 in
theorem mi_264 : Jvm.Cond.instanceMethod pm_264.2.1 ∈ gtb ∧ Jvm.Cond.selects pm_264.2.1.cls pm_264.2.1 pm_264.2.1 ∈ gtb := ⟨(gw (List.mem_append_right _ (List.mem_append_right _ (List.mem_append_right _ (List.mem_append_right _ (List.mem_append_right _ (List.mem_append_right _ (List.mem_append_right _ (List.mem_of_getElem? (l := tables_1_7) (i := 28) rfl)))))))) rfl), (gw (List.mem_append_left _ (List.mem_of_getElem? (i := 73) rfl)) rfl)⟩
set_option maxRecDepth 100000 in
theorem ml_255 : MPr [14, 316, 1, 264, 4, 0, 9] := ⟨"OneAtATimeModel", pm_264, ("OneAtATimeModel", kT9, 29), rfl, rfl, rfl, rfl, (gw (List.mem_append_right _ (List.mem_append_right _ (List.mem_append_right _ (List.mem_append_right _ (List.mem_append_right _ (List.mem_append_right _ (List.mem_append_right _ (List.mem_of_getElem? (l := tables_1_7) (i := 26) rfl)))))))) rfl), mi_264, mf_264, rfl, Nat.le_of_ble_eq_true rfl⟩
set_option maxRecDepth 100000 in
theorem mf_263 : MFr pm_263 3 := ⟨(gw (List.mem_append_right _ (List.mem_append_right _ (List.mem_append_right _ (List.mem_append_right _ (List.mem_append_right _ (List.mem_append_right _ (List.mem_append_right _ (List.mem_of_getElem? (l := tables_1_7) (i := 25) rfl)))))))) rfl), ini_14, by decide +kernel, by decide +kernel⟩
set_option maxRecDepth 100000 in
theorem mi_263 : Jvm.Cond.instanceMethod pm_263.2.1 ∈ gtb ∧ Jvm.Cond.selects pm_263.2.1.cls pm_263.2.1 pm_263.2.1 ∈ gtb := ⟨(gw (List.mem_append_right _ (List.mem_append_right _ (List.mem_append_right _ (List.mem_append_right _ (List.mem_append_right _ (List.mem_append_right _ (List.mem_append_right _ (List.mem_of_getElem? (l := tables_1_7) (i := 24) rfl)))))))) rfl), (gw (List.mem_append_left _ (List.mem_of_getElem? (i := 72) rfl)) rfl)⟩
set_option maxRecDepth 100000 in
theorem ml_256 : MPr [14, 310, 1, 263, 4, 1, 9] := ⟨"OneAtATimeModel", pm_263, ("OneAtATimeModel", kT9, 29), rfl, rfl, rfl, rfl, (gw (List.mem_append_right _ (List.mem_append_right _ (List.mem_append_right _ (List.mem_append_right _ (List.mem_append_right _ (List.mem_append_right _ (List.mem_append_right _ (List.mem_of_getElem? (l := tables_1_7) (i := 22) rfl)))))))) rfl), mi_263, mf_263, rfl, Nat.le_of_ble_eq_true rfl⟩
set_option maxRecDepth 100000 in
theorem mf_265 : MFr pm_265 5 := ⟨(gw (List.mem_append_right _ (List.mem_append_right _ (List.mem_append_right _ (List.mem_append_right _ (List.mem_append_right _ (List.mem_append_right _ (List.mem_append_right _ (List.mem_of_getElem? (l := tables_1_7) (i := 33) rfl)))))))) rfl), ini_14, by decide +kernel, by decide +kernel⟩
set_option maxRecDepth 100000 in
theorem mi_265 : Jvm.Cond.instanceMethod pm_265.2.1 ∈ gtb ∧ Jvm.Cond.selects pm_265.2.1.cls pm_265.2.1 pm_265.2.1 ∈ gtb := ⟨(gw (List.mem_append_right _ (List.mem_append_right _ (List.mem_append_right _ (List.mem_append_right _ (List.mem_append_right _ (List.mem_append_right _ (List.mem_append_right _ (List.mem_of_getElem? (l := tables_1_7) (i := 32) rfl)))))))) rfl), (gw (List.mem_append_left _ (List.mem_of_getElem? (i := 74) rfl)) rfl)⟩
set_option maxRecDepth 100000 in
theorem ml_257 : MPr [14, 320, 1, 265, 6, 1, 9] := ⟨"OneAtATimeModel", pm_265, ("OneAtATimeModel", kT9, 29), rfl, rfl, rfl, rfl, (gw (List.mem_append_right _ (List.mem_append_right _ (List.mem_append_right _ (List.mem_append_right _ (List.mem_append_right _ (List.mem_append_right _ (List.mem_append_right _ (List.mem_of_getElem? (l := tables_1_7) (i := 30) rfl)))))))) rfl), mi_265, mf_265, rfl, Nat.le_of_ble_eq_true rfl⟩
set_option maxRecDepth 100000 in
theorem mf_268 : MFr pm_268 2 := ⟨(gw (List.mem_append_right _ (List.mem_append_right _ (List.mem_append_right _ (List.mem_append_right _ (List.mem_append_right _ (List.mem_append_right _ (List.mem_append_right _ (List.mem_of_getElem? (l := tables_1_7) (i := 45) rfl)))))))) rfl), ini_14, by decide +kernel, by decide +kernel⟩
set_option maxRecDepth 100000 in
theorem mi_268 : Jvm.Cond.instanceMethod pm_268.2.1 ∈ gtb ∧ Jvm.Cond.selects pm_268.2.1.cls pm_268.2.1 pm_268.2.1 ∈ gtb := ⟨(gw (List.mem_append_right _ (List.mem_append_right _ (List.mem_append_right _ (List.mem_append_right _ (List.mem_append_right _ (List.mem_append_right _ (List.mem_append_right _ (List.mem_of_getElem? (l := tables_1_7) (i := 44) rfl)))))))) rfl), (gw (List.mem_append_left _ (List.mem_of_getElem? (i := 75) rfl)) rfl)⟩
set_option maxRecDepth 100000 in
theorem ml_258 : MPr [14, 327, 1, 268, 3, 1, 9] := ⟨"OneAtATimeModel", pm_268, ("OneAtATimeModel", kT9, 29), rfl, rfl, rfl, rfl, (gw (List.mem_append_right _ (List.mem_append_right _ (List.mem_append_right _ (List.mem_append_right _ (List.mem_append_right _ (List.mem_append_right _ (List.mem_append_right _ (List.mem_of_getElem? (l := tables_1_7) (i := 42) rfl)))))))) rfl), mi_268, mf_268, rfl, Nat.le_of_ble_eq_true rfl⟩
set_option maxRecDepth 100000 in
theorem mf_273 : MFr pm_273 1 := ⟨(gw (List.mem_append_right _ (List.mem_append_right _ (List.mem_append_right _ (List.mem_append_right _ (List.mem_append_right _ (List.mem_append_right _ (List.mem_append_right _ (List.mem_of_getElem? (l := tables_1_7) (i := 65) rfl)))))))) rfl), ini_14, by decide +kernel, by decide +kernel⟩
set_option maxRecDepth 100000 in
theorem mi_273 : Jvm.Cond.instanceMethod pm_273.2.1 ∈ gtb ∧ Jvm.Cond.selects pm_273.2.1.cls pm_273.2.1 pm_273.2.1 ∈ gtb := ⟨(gw (List.mem_append_right _ (List.mem_append_right _ (List.mem_append_right _ (List.mem_append_right _ (List.mem_append_right _ (List.mem_append_right _ (List.mem_append_right _ (List.mem_of_getElem? (l := tables_1_7) (i := 64) rfl)))))))) rfl), (gw (List.mem_append_left _ (List.mem_of_getElem? (i := 76) rfl)) rfl)⟩
set_option maxRecDepth 100000 in
theorem ml_259 : MPr [14, 330, 1, 273, 2, 0, 9] := ⟨"OneAtATimeModel", pm_273, ("OneAtATimeModel", kT9, 29), rfl, rfl, rfl, rfl, (gw (List.mem_append_right _ (List.mem_append_right _ (List.mem_append_right _ (List.mem_append_right _ (List.mem_append_right _ (List.mem_append_right _ (List.mem_append_right _ (List.mem_of_getElem? (l := tables_1_7) (i := 62) rfl)))))))) rfl), mi_273, mf_273, rfl, Nat.le_of_ble_eq_true rfl⟩
set_option maxRecDepth 100000 in
theorem mf_280 : MFr pm_280 1 := ⟨(gw (List.mem_append_right _ (List.mem_append_right _ (List.mem_append_right _ (List.mem_append_right _ (List.mem_append_right _ (List.mem_append_right _ (List.mem_append_right _ (List.mem_of_getElem? (l := tables_1_7) (i := 93) rfl)))))))) rfl), ini_14, by decide +kernel, by decide +kernel⟩
set_option maxRecDepth 100000 in
theorem mi_280 : Jvm.Cond.instanceMethod pm_280.2.1 ∈ gtb ∧ Jvm.Cond.selects pm_280.2.1.cls pm_280.2.1 pm_280.2.1 ∈ gtb := ⟨(gw (List.mem_append_right _ (List.mem_append_right _ (List.mem_append_right _ (List.mem_append_right _ (List.mem_append_right _ (List.mem_append_right _ (List.mem_append_right _ (List.mem_of_getElem? (l := tables_1_7) (i := 92) rfl)))))))) rfl), (gw (List.mem_append_left _ (List.mem_of_getElem? (i := 77) rfl)) rfl)⟩
set_option maxRecDepth 100000 in
theorem ml_260 : MPr [14, 333, 1, 280, 2, 1, 9] := ⟨"OneAtATimeModel", pm_280, ("OneAtATimeModel", kT9, 29), rfl, rfl, rfl, rfl, (gw (List.mem_append_right _ (List.mem_append_right _ (List.mem_append_right _ (List.mem_append_right _ (List.mem_append_right _ (List.mem_append_right _ (List.mem_append_right _ (List.mem_of_getElem? (l := tables_1_7) (i := 90) rfl)))))))) rfl), mi_280, mf_280, rfl, Nat.le_of_ble_eq_true rfl⟩
set_option maxRecDepth 100000 in
theorem mf_281 : MFr pm_281 4 := ⟨(gw (List.mem_append_right _ (List.mem_append_right _ (List.mem_append_right _ (List.mem_append_right _ (List.mem_append_right _ (List.mem_append_right _ (List.mem_append_right _ (List.mem_of_getElem? (l := tables_1_7) (i := 97) rfl)))))))) rfl), ini_14, by decide +kernel, by decide +kernel⟩
set_option maxRecDepth 100000 in
theorem mi_281 : Jvm.Cond.instanceMethod pm_281.2.1 ∈ gtb ∧ Jvm.Cond.selects pm_281.2.1.cls pm_281.2.1 pm_281.2.1 ∈ gtb := ⟨(gw (List.mem_append_right _ (List.mem_append_right _ (List.mem_append_right _ (List.mem_append_right _ (List.mem_append_right _ (List.mem_append_right _ (List.mem_append_right _ (List.mem_of_getElem? (l := tables_1_7) (i := 96) rfl)))))))) rfl), (gw (List.mem_append_left _ (List.mem_of_getElem? (i := 78) rfl)) rfl)⟩
set_option maxRecDepth 100000 in
theorem ml_261 : MPr [14, 336, 1, 281, 5, 1, 9] := ⟨"OneAtATimeModel", pm_281, ("OneAtATimeModel", kT9, 29), rfl, rfl, rfl, rfl, (gw (List.mem_append_right _ (List.mem_append_right _ (List.mem_append_right _ (List.mem_append_right _ (List.mem_append_right _ (List.mem_append_right _ (List.mem_append_right _ (List.mem_of_getElem? (l := tables_1_7) (i := 94) rfl)))))))) rfl), mi_281, mf_281, rfl, Nat.le_of_ble_eq_true rfl⟩
set_option maxRecDepth 100000 in
theorem mf_283 : MFr pm_283 1 := ⟨(gw (List.mem_append_right _ (List.mem_append_right _ (List.mem_append_right _ (List.mem_append_right _ (List.mem_append_right _ (List.mem_append_right _ (List.mem_append_right _ (List.mem_of_getElem? (l := tables_1_7) (i := 106) rfl)))))))) rfl), ini_14, by decide +kernel, by decide +kernel⟩
set_option maxRecDepth 100000 in
theorem mi_283 : Jvm.Cond.instanceMethod pm_283.2.1 ∈ gtb ∧ Jvm.Cond.selects pm_283.2.1.cls pm_283.2.1 pm_283.2.1 ∈ gtb := ⟨(gw (List.mem_append_right _ (List.mem_append_right _ (List.mem_append_right _ (List.mem_append_right _ (List.mem_append_right _ (List.mem_append_right _ (List.mem_append_right _ (List.mem_of_getElem? (l := tables_1_7) (i := 105) rfl)))))))) rfl), (gw (List.mem_append_left _ (List.mem_of_getElem? (i := 79) rfl)) rfl)⟩
set_option maxRecDepth 100000 in
theorem ml_262 : MPr [14, 345, 1, 283, 2, 0, 9] := ⟨"OneAtATimeModel", pm_283, ("OneAtATimeModel", kT9, 29), rfl, rfl, rfl, rfl, (gw (List.mem_append_right _ (List.mem_append_right _ (List.mem_append_right _ (List.mem_append_right _ (List.mem_append_right _ (List.mem_append_right _ (List.mem_append_right _ (List.mem_of_getElem? (l := tables_1_7) (i := 103) rfl)))))))) rfl), mi_283, mf_283, rfl, Nat.le_of_ble_eq_true rfl⟩
set_option maxRecDepth 100000 in
theorem mf_284 : MFr pm_284 1 := ⟨(gw (List.mem_append_right _ (List.mem_append_right _ (List.mem_append_right _ (List.mem_append_right _ (List.mem_append_right _ (List.mem_append_right _ (List.mem_append_right _ (List.mem_of_getElem? (l := tables_1_7) (i := 110) rfl)))))))) rfl), ini_14, by decide +kernel, by decide +kernel⟩
set_option maxRecDepth 100000 in
theorem mi_284 : Jvm.Cond.instanceMethod pm_284.2.1 ∈ gtb ∧ Jvm.Cond.selects pm_284.2.1.cls pm_284.2.1 pm_284.2.1 ∈ gtb := ⟨(gw (List.mem_append_right _ (List.mem_append_right _ (List.mem_append_right _ (List.mem_append_right _ (List.mem_append_right _ (List.mem_append_right _ (List.mem_append_right _ (List.mem_of_getElem? (l := tables_1_7) (i := 109) rfl)))))))) rfl), (gw (List.mem_append_left _ (List.mem_of_getElem? (i := 80) rfl)) rfl)⟩
set_option maxRecDepth 100000 in
theorem ml_263 : MPr [14, 340, 1, 284, 2, 0, 9] := ⟨"OneAtATimeModel", pm_284, ("OneAtATimeModel", kT9, 29), rfl, rfl, rfl, rfl, (gw (List.mem_append_right _ (List.mem_append_right _ (List.mem_append_right _ (List.mem_append_right _ (List.mem_append_right _ (List.mem_append_right _ (List.mem_append_right _ (List.mem_of_getElem? (l := tables_1_7) (i := 107) rfl)))))))) rfl), mi_284, mf_284, rfl, Nat.le_of_ble_eq_true rfl⟩
set_option maxRecDepth 100000 in
theorem mf_0 : MFr pm_0 0 := ⟨(gw (List.mem_append_right _ (List.mem_append_left _ (List.mem_of_getElem? (l := tables_1_1) (i := 25) rfl))) rfl), ini_0, by decide +kernel, by decide +kernel⟩
set_option maxRecDepth 100000 in
theorem mi_0 : Jvm.Cond.instanceMethod pm_0.2.1 ∈ gtb := (gw (List.mem_append_right _ (List.mem_append_left _ (List.mem_of_getElem? (l := tables_1_1) (i := 24) rfl))) rfl)
set_option maxRecDepth 100000 in
theorem ml_264 : MPr [15, 9, 2, 0, 1, 0, 0] := ⟨"OneAtATimeLaw", pm_0, rfl, rfl, rfl, (gw (List.mem_append_right _ (List.mem_append_left _ (List.mem_of_getElem? (l := tables_1_1) (i := 23) rfl))) rfl), mi_0, mf_0, rfl, Nat.le_of_ble_eq_true rfl⟩
set_option maxRecDepth 100000 in
theorem mf_175 : MFr pm_175 0 := ⟨(gw (List.mem_append_right _ (List.mem_append_right _ (List.mem_append_right _ (List.mem_append_right _ (List.mem_append_right _ (List.mem_append_left _ (List.mem_of_getElem? (l := tables_1_5) (i := 53) rfl))))))) rfl), ini_14, by decide +kernel, by decide +kernel⟩
set_option maxRecDepth 100000 in
theorem mi_175 : Jvm.Cond.instanceMethod pm_175.2.1 ∈ gtb := (gw (List.mem_append_right _ (List.mem_append_right _ (List.mem_append_right _ (List.mem_append_right _ (List.mem_append_right _ (List.mem_append_left _ (List.mem_of_getElem? (l := tables_1_5) (i := 52) rfl))))))) rfl)
set_option maxRecDepth 100000 in
theorem ml_265 : MPr [15, 12, 2, 175, 1, 0, 0] := ⟨"OneAtATimeLaw", pm_175, rfl, rfl, rfl, (gw (List.mem_append_right _ (List.mem_append_right _ (List.mem_append_right _ (List.mem_append_right _ (List.mem_append_right _ (List.mem_append_left _ (List.mem_of_getElem? (l := tables_1_5) (i := 51) rfl))))))) rfl), mi_175, mf_175, rfl, Nat.le_of_ble_eq_true rfl⟩
set_option maxRecDepth 100000 in
theorem mf_10 : MFr pm_10 5 := ⟨(gw (List.mem_append_right _ (List.mem_append_right _ (List.mem_append_left _ (List.mem_of_getElem? (l := tables_1_2) (i := 26) rfl)))) rfl), ini_0, by decide +kernel, by decide +kernel⟩
set_option maxRecDepth 100000 in
theorem mi_10 : Jvm.Cond.instanceMethod pm_10.2.1 ∈ gtb ∧ Jvm.Cond.selects pm_10.2.1.cls pm_10.2.1 pm_10.2.1 ∈ gtb := ⟨(gw (List.mem_append_right _ (List.mem_append_right _ (List.mem_append_left _ (List.mem_of_getElem? (l := tables_1_2) (i := 24) rfl)))) rfl), (gw (List.mem_append_right _ (List.mem_append_right _ (List.mem_append_left _ (List.mem_of_getElem? (l := tables_1_2) (i := 25) rfl)))) rfl)⟩
set_option maxRecDepth 100000 in
theorem ml_266 : MPr [15, 13, 1, 10, 6, 1, 8] := ⟨"OneAtATimeLaw", pm_10, ("OneAtATime", kT8, 9), rfl, rfl, rfl, rfl, (gw (List.mem_append_right _ (List.mem_append_right _ (List.mem_append_left _ (List.mem_of_getElem? (l := tables_1_2) (i := 23) rfl)))) rfl), mi_10, mf_10, rfl, Nat.le_of_ble_eq_true rfl⟩
set_option maxRecDepth 100000 in
theorem mf_185 : MFr pm_185 5 := ⟨(gw (List.mem_append_right _ (List.mem_append_right _ (List.mem_append_right _ (List.mem_append_right _ (List.mem_append_right _ (List.mem_append_left _ (List.mem_of_getElem? (l := tables_1_5) (i := 182) rfl))))))) rfl), ini_14, by decide +kernel, by decide +kernel⟩
set_option maxRecDepth 100000 in
theorem mi_185 : Jvm.Cond.instanceMethod pm_185.2.1 ∈ gtb ∧ Jvm.Cond.selects pm_185.2.1.cls pm_185.2.1 pm_185.2.1 ∈ gtb := ⟨(gw (List.mem_append_right _ (List.mem_append_right _ (List.mem_append_right _ (List.mem_append_right _ (List.mem_append_right _ (List.mem_append_left _ (List.mem_of_getElem? (l := tables_1_5) (i := 180) rfl))))))) rfl), (gw (List.mem_append_right _ (List.mem_append_right _ (List.mem_append_right _ (List.mem_append_right _ (List.mem_append_right _ (List.mem_append_left _ (List.mem_of_getElem? (l := tables_1_5) (i := 181) rfl))))))) rfl)⟩
set_option maxRecDepth 100000 in
theorem ml_267 : MPr [15, 17, 1, 185, 6, 1, 9] := ⟨"OneAtATimeLaw", pm_185, ("OneAtATimeModel", kT9, 29), rfl, rfl, rfl, rfl, (gw (List.mem_append_right _ (List.mem_append_right _ (List.mem_append_right _ (List.mem_append_right _ (List.mem_append_right _ (List.mem_append_left _ (List.mem_of_getElem? (l := tables_1_5) (i := 179) rfl))))))) rfl), mi_185, mf_185, rfl, Nat.le_of_ble_eq_true rfl⟩
set_option maxRecDepth 100000 in
theorem mf_14 : MFr pm_14 1 := ⟨(gw (List.mem_append_right _ (List.mem_append_right _ (List.mem_append_left _ (List.mem_of_getElem? (l := tables_1_2) (i := 42) rfl)))) rfl), ini_0, by decide +kernel, by decide +kernel⟩
set_option maxRecDepth 100000 in
theorem mi_14 : Jvm.Cond.instanceMethod pm_14.2.1 ∈ gtb ∧ Jvm.Cond.selects pm_14.2.1.cls pm_14.2.1 pm_14.2.1 ∈ gtb := ⟨(gw (List.mem_append_right _ (List.mem_append_right _ (List.mem_append_left _ (List.mem_of_getElem? (l := tables_1_2) (i := 40) rfl)))) rfl), (gw (List.mem_append_right _ (List.mem_append_right _ (List.mem_append_left _ (List.mem_of_getElem? (l := tables_1_2) (i := 41) rfl)))) rfl)⟩
set_option maxRecDepth 100000 in
theorem ml_268 : MPr [15, 18, 1, 14, 2, 1, 8] := ⟨"OneAtATimeLaw", pm_14, ("OneAtATime", kT8, 9), rfl, rfl, rfl, rfl, (gw (List.mem_append_right _ (List.mem_append_right _ (List.mem_append_left _ (List.mem_of_getElem? (l := tables_1_2) (i := 39) rfl)))) rfl), mi_14, mf_14, rfl, Nat.le_of_ble_eq_true rfl⟩
set_option maxRecDepth 100000 in
theorem mf_186 : MFr pm_186 1 := ⟨(gw (List.mem_append_right _ (List.mem_append_right _ (List.mem_append_right _ (List.mem_append_right _ (List.mem_append_right _ (List.mem_append_left _ (List.mem_of_getElem? (l := tables_1_5) (i := 186) rfl))))))) rfl), ini_14, by decide +kernel, by decide +kernel⟩
set_option maxRecDepth 100000 in
theorem mi_186 : Jvm.Cond.instanceMethod pm_186.2.1 ∈ gtb ∧ Jvm.Cond.selects pm_186.2.1.cls pm_186.2.1 pm_186.2.1 ∈ gtb := ⟨(gw (List.mem_append_right _ (List.mem_append_right _ (List.mem_append_right _ (List.mem_append_right _ (List.mem_append_right _ (List.mem_append_left _ (List.mem_of_getElem? (l := tables_1_5) (i := 184) rfl))))))) rfl), (gw (List.mem_append_right _ (List.mem_append_right _ (List.mem_append_right _ (List.mem_append_right _ (List.mem_append_right _ (List.mem_append_left _ (List.mem_of_getElem? (l := tables_1_5) (i := 185) rfl))))))) rfl)⟩
set_option maxRecDepth 100000 in
theorem ml_269 : MPr [15, 22, 1, 186, 2, 1, 9] := ⟨"OneAtATimeLaw", pm_186, ("OneAtATimeModel", kT9, 29), rfl, rfl, rfl, rfl, (gw (List.mem_append_right _ (List.mem_append_right _ (List.mem_append_right _ (List.mem_append_right _ (List.mem_append_right _ (List.mem_append_left _ (List.mem_of_getElem? (l := tables_1_5) (i := 183) rfl))))))) rfl), mi_186, mf_186, rfl, Nat.le_of_ble_eq_true rfl⟩
set_option maxRecDepth 100000 in
theorem mf_15 : MFr pm_15 1 := ⟨(gw (List.mem_append_right _ (List.mem_append_right _ (List.mem_append_left _ (List.mem_of_getElem? (l := tables_1_2) (i := 46) rfl)))) rfl), ini_0, by decide +kernel, by decide +kernel⟩
set_option maxRecDepth 100000 in
theorem mi_15 : Jvm.Cond.instanceMethod pm_15.2.1 ∈ gtb ∧ Jvm.Cond.selects pm_15.2.1.cls pm_15.2.1 pm_15.2.1 ∈ gtb := ⟨(gw (List.mem_append_right _ (List.mem_append_right _ (List.mem_append_left _ (List.mem_of_getElem? (l := tables_1_2) (i := 44) rfl)))) rfl), (gw (List.mem_append_right _ (List.mem_append_right _ (List.mem_append_left _ (List.mem_of_getElem? (l := tables_1_2) (i := 45) rfl)))) rfl)⟩
set_option maxRecDepth 100000 in
theorem ml_270 : MPr [15, 23, 1, 15, 2, 1, 8] := ⟨"OneAtATimeLaw", pm_15, ("OneAtATime", kT8, 9), rfl, rfl, rfl, rfl, (gw (List.mem_append_right _ (List.mem_append_right _ (List.mem_append_left _ (List.mem_of_getElem? (l := tables_1_2) (i := 43) rfl)))) rfl), mi_15, mf_15, rfl, Nat.le_of_ble_eq_true rfl⟩
set_option maxRecDepth 100000 in
theorem mf_187 : MFr pm_187 1 := ⟨(gw (List.mem_append_right _ (List.mem_append_right _ (List.mem_append_right _ (List.mem_append_right _ (List.mem_append_right _ (List.mem_append_left _ (List.mem_of_getElem? (l := tables_1_5) (i := 190) rfl))))))) rfl), ini_14, by decide +kernel, by decide +kernel⟩
set_option maxRecDepth 100000 in
theorem mi_187 : Jvm.Cond.instanceMethod pm_187.2.1 ∈ gtb ∧ Jvm.Cond.selects pm_187.2.1.cls pm_187.2.1 pm_187.2.1 ∈ gtb := ⟨(gw (List.mem_append_right _ (List.mem_append_right _ (List.mem_append_right _ (List.mem_append_right _ (List.mem_append_right _ (List.mem_append_left _ (List.mem_of_getElem? (l := tables_1_5) (i := 188) rfl))))))) rfl), (gw (List.mem_append_right _ (List.mem_append_right _ (List.mem_append_right _ (List.mem_append_right _ (List.mem_append_right _ (List.mem_append_left _ (List.mem_of_getElem? (l := tables_1_5) (i := 189) rfl))))))) rfl)⟩
set_option maxRecDepth 100000 in
theorem ml_271 : MPr [15, 26, 1, 187, 2, 1, 9] := ⟨"OneAtATimeLaw", pm_187, ("OneAtATimeModel", kT9, 29), rfl, rfl, rfl, rfl, (gw (List.mem_append_right _ (List.mem_append_right _ (List.mem_append_right _ (List.mem_append_right _ (List.mem_append_right _ (List.mem_append_left _ (List.mem_of_getElem? (l := tables_1_5) (i := 187) rfl))))))) rfl), mi_187, mf_187, rfl, Nat.le_of_ble_eq_true rfl⟩
set_option maxRecDepth 100000 in
theorem mf_37 : MFr pm_37 1 := ⟨(gw (List.mem_append_right _ (List.mem_append_right _ (List.mem_append_left _ (List.mem_of_getElem? (l := tables_1_2) (i := 187) rfl)))) rfl), ini_0, by decide +kernel, by decide +kernel⟩
set_option maxRecDepth 100000 in
theorem mi_37 : Jvm.Cond.instanceMethod pm_37.2.1 ∈ gtb ∧ Jvm.Cond.selects pm_37.2.1.cls pm_37.2.1 pm_37.2.1 ∈ gtb := ⟨(gw (List.mem_append_right _ (List.mem_append_right _ (List.mem_append_left _ (List.mem_of_getElem? (l := tables_1_2) (i := 185) rfl)))) rfl), (gw (List.mem_append_right _ (List.mem_append_right _ (List.mem_append_left _ (List.mem_of_getElem? (l := tables_1_2) (i := 186) rfl)))) rfl)⟩
set_option maxRecDepth 100000 in
theorem ml_272 : MPr [15, 27, 1, 37, 2, 1, 8] := ⟨"OneAtATimeLaw", pm_37, ("OneAtATime", kT8, 9), rfl, rfl, rfl, rfl, (gw (List.mem_append_right _ (List.mem_append_right _ (List.mem_append_left _ (List.mem_of_getElem? (l := tables_1_2) (i := 184) rfl)))) rfl), mi_37, mf_37, rfl, Nat.le_of_ble_eq_true rfl⟩
set_option maxRecDepth 100000 in
theorem mf_198 : MFr pm_198 1 := ⟨(gw (List.mem_append_right _ (List.mem_append_right _ (List.mem_append_right _ (List.mem_append_right _ (List.mem_append_right _ (List.mem_append_right _ (List.mem_append_left _ (List.mem_of_getElem? (l := tables_1_6) (i := 1) rfl)))))))) rfl), ini_14, by decide +kernel, by decide +kernel⟩
set_option maxRecDepth 100000 in
theorem mi_198 : Jvm.Cond.instanceMethod pm_198.2.1 ∈ gtb ∧ Jvm.Cond.selects pm_198.2.1.cls pm_198.2.1 pm_198.2.1 ∈ gtb := ⟨(gw (List.mem_append_right _ (List.mem_append_right _ (List.mem_append_right _ (List.mem_append_right _ (List.mem_append_right _ (List.mem_append_left _ (List.mem_of_getElem? (l := tables_1_5) (i := 239) rfl))))))) rfl), (gw (List.mem_append_right _ (List.mem_append_right _ (List.mem_append_right _ (List.mem_append_right _ (List.mem_append_right _ (List.mem_append_right _ (List.mem_append_left _ (List.mem_of_getElem? (l := tables_1_6) (i := 0) rfl)))))))) rfl)⟩
set_option maxRecDepth 100000 in
theorem ml_273 : MPr [15, 30, 1, 198, 2, 1, 9] := ⟨"OneAtATimeLaw", pm_198, ("OneAtATimeModel", kT9, 29), rfl, rfl, rfl, rfl, (gw (List.mem_append_right _ (List.mem_append_right _ (List.mem_append_right _ (List.mem_append_right _ (List.mem_append_right _ (List.mem_append_left _ (List.mem_of_getElem? (l := tables_1_5) (i := 238) rfl))))))) rfl), mi_198, mf_198, rfl, Nat.le_of_ble_eq_true rfl⟩
set_option maxRecDepth 100000 in
theorem mf_38 : MFr pm_38 1 := ⟨(gw (List.mem_append_right _ (List.mem_append_right _ (List.mem_append_left _ (List.mem_of_getElem? (l := tables_1_2) (i := 191) rfl)))) rfl), ini_0, by decide +kernel, by decide +kernel⟩
set_option maxRecDepth 100000 in
theorem mi_38 : Jvm.Cond.instanceMethod pm_38.2.1 ∈ gtb ∧ Jvm.Cond.selects pm_38.2.1.cls pm_38.2.1 pm_38.2.1 ∈ gtb := ⟨(gw (List.mem_append_right _ (List.mem_append_right _ (List.mem_append_left _ (List.mem_of_getElem? (l := tables_1_2) (i := 189) rfl)))) rfl), (gw (List.mem_append_right _ (List.mem_append_right _ (List.mem_append_left _ (List.mem_of_getElem? (l := tables_1_2) (i := 190) rfl)))) rfl)⟩
set_option maxRecDepth 100000 in
theorem ml_274 : MPr [15, 31, 1, 38, 2, 1, 8] := ⟨"OneAtATimeLaw", pm_38, ("OneAtATime", kT8, 9), rfl, rfl, rfl, rfl, (gw (List.mem_append_right _ (List.mem_append_right _ (List.mem_append_left _ (List.mem_of_getElem? (l := tables_1_2) (i := 188) rfl)))) rfl), mi_38, mf_38, rfl, Nat.le_of_ble_eq_true rfl⟩
set_option maxRecDepth 100000 in
theorem mf_199 : MFr pm_199 1 := ⟨(gw (List.mem_append_right _ (List.mem_append_right _ (List.mem_append_right _ (List.mem_append_right _ (List.mem_append_right _ (List.mem_append_right _ (List.mem_append_left _ (List.mem_of_getElem? (l := tables_1_6) (i := 5) rfl)))))))) rfl), ini_14, by decide +kernel, by decide +kernel⟩
set_option maxRecDepth 100000 in
theorem mi_199 : Jvm.Cond.instanceMethod pm_199.2.1 ∈ gtb ∧ Jvm.Cond.selects pm_199.2.1.cls pm_199.2.1 pm_199.2.1 ∈ gtb := ⟨(gw (List.mem_append_right _ (List.mem_append_right _ (List.mem_append_right _ (List.mem_append_right _ (List.mem_append_right _ (List.mem_append_right _ (List.mem_append_left _ (List.mem_of_getElem? (l := tables_1_6) (i := 3) rfl)))))))) rfl), (gw (List.mem_append_right _ (List.mem_append_right _ (List.mem_append_right _ (List.mem_append_right _ (List.mem_append_right _ (List.mem_append_right _ (List.mem_append_left _ (List.mem_of_getElem? (l := tables_1_6) (i := 4) rfl)))))))) rfl)⟩
set_option maxRecDepth 100000 in
theorem ml_275 : MPr [15, 34, 1, 199, 2, 1, 9] := ⟨"OneAtATimeLaw", pm_199, ("OneAtATimeModel", kT9, 29), rfl, rfl, rfl, rfl, (gw (List.mem_append_right _ (List.mem_append_right _ (List.mem_append_right _ (List.mem_append_right _ (List.mem_append_right _ (List.mem_append_right _ (List.mem_append_left _ (List.mem_of_getElem? (l := tables_1_6) (i := 2) rfl)))))))) rfl), mi_199, mf_199, rfl, Nat.le_of_ble_eq_true rfl⟩
set_option maxRecDepth 100000 in
theorem mf_40 : MFr pm_40 2 := ⟨(gw (List.mem_append_right _ (List.mem_append_right _ (List.mem_append_left _ (List.mem_of_getElem? (l := tables_1_2) (i := 199) rfl)))) rfl), ini_0, by decide +kernel, by decide +kernel⟩
set_option maxRecDepth 100000 in
theorem mi_40 : Jvm.Cond.instanceMethod pm_40.2.1 ∈ gtb ∧ Jvm.Cond.selects pm_40.2.1.cls pm_40.2.1 pm_40.2.1 ∈ gtb := ⟨(gw (List.mem_append_right _ (List.mem_append_right _ (List.mem_append_left _ (List.mem_of_getElem? (l := tables_1_2) (i := 197) rfl)))) rfl), (gw (List.mem_append_right _ (List.mem_append_right _ (List.mem_append_left _ (List.mem_of_getElem? (l := tables_1_2) (i := 198) rfl)))) rfl)⟩
set_option maxRecDepth 100000 in
theorem ml_276 : MPr [15, 35, 1, 40, 3, 1, 8] := ⟨"OneAtATimeLaw", pm_40, ("OneAtATime", kT8, 9), rfl, rfl, rfl, rfl, (gw (List.mem_append_right _ (List.mem_append_right _ (List.mem_append_left _ (List.mem_of_getElem? (l := tables_1_2) (i := 196) rfl)))) rfl), mi_40, mf_40, rfl, Nat.le_of_ble_eq_true rfl⟩
set_option maxRecDepth 100000 in
theorem mf_217 : MFr pm_217 2 := ⟨(gw (List.mem_append_right _ (List.mem_append_right _ (List.mem_append_right _ (List.mem_append_right _ (List.mem_append_right _ (List.mem_append_right _ (List.mem_append_left _ (List.mem_of_getElem? (l := tables_1_6) (i := 77) rfl)))))))) rfl), ini_14, by decide +kernel, by decide +kernel⟩
set_option maxRecDepth 100000 in
theorem mi_217 : Jvm.Cond.instanceMethod pm_217.2.1 ∈ gtb ∧ Jvm.Cond.selects pm_217.2.1.cls pm_217.2.1 pm_217.2.1 ∈ gtb := ⟨(gw (List.mem_append_right _ (List.mem_append_right _ (List.mem_append_right _ (List.mem_append_right _ (List.mem_append_right _ (List.mem_append_right _ (List.mem_append_left _ (List.mem_of_getElem? (l := tables_1_6) (i := 75) rfl)))))))) rfl), (gw (List.mem_append_right _ (List.mem_append_right _ (List.mem_append_right _ (List.mem_append_right _ (List.mem_append_right _ (List.mem_append_right _ (List.mem_append_left _ (List.mem_of_getElem? (l := tables_1_6) (i := 76) rfl)))))))) rfl)⟩
set_option maxRecDepth 100000 in
theorem ml_277 : MPr [15, 39, 1, 217, 3, 1, 9] := ⟨"OneAtATimeLaw", pm_217, ("OneAtATimeModel", kT9, 29), rfl, rfl, rfl, rfl, (gw (List.mem_append_right _ (List.mem_append_right _ (List.mem_append_right _ (List.mem_append_right _ (List.mem_append_right _ (List.mem_append_right _ (List.mem_append_left _ (List.mem_of_getElem? (l := tables_1_6) (i := 74) rfl)))))))) rfl), mi_217, mf_217, rfl, Nat.le_of_ble_eq_true rfl⟩
set_option maxRecDepth 100000 in
theorem mf_51 : MFr pm_51 2 := ⟨(gw (List.mem_append_right _ (List.mem_append_right _ (List.mem_append_right _ (List.mem_append_left _ (List.mem_of_getElem? (l := tables_1_3) (i := 6) rfl))))) rfl), ini_0, by decide +kernel, by decide +kernel⟩
set_option maxRecDepth 100000 in
theorem mi_51 : Jvm.Cond.instanceMethod pm_51.2.1 ∈ gtb ∧ Jvm.Cond.selects pm_51.2.1.cls pm_51.2.1 pm_51.2.1 ∈ gtb := ⟨(gw (List.mem_append_right _ (List.mem_append_right _ (List.mem_append_right _ (List.mem_append_left _ (List.mem_of_getElem? (l := tables_1_3) (i := 4) rfl))))) rfl), (gw (List.mem_append_right _ (List.mem_append_right _ (List.mem_append_right _ (List.mem_append_left _ (List.mem_of_getElem? (l := tables_1_3) (i := 5) rfl))))) rfl)⟩
set_option maxRecDepth 100000 in
theorem ml_278 : MPr [15, 40, 1, 51, 3, 1, 8] := ⟨"OneAtATimeLaw", pm_51, ("OneAtATime", kT8, 9), rfl, rfl, rfl, rfl, (gw (List.mem_append_right _ (List.mem_append_right _ (List.mem_append_right _ (List.mem_append_left _ (List.mem_of_getElem? (l := tables_1_3) (i := 3) rfl))))) rfl), mi_51, mf_51, rfl, Nat.le_of_ble_eq_true rfl⟩
set_option maxRecDepth 100000 in
theorem mf_200 : MFr pm_200 2 := ⟨(gw (List.mem_append_right _ (List.mem_append_right _ (List.mem_append_right _ (List.mem_append_right _ (List.mem_append_right _ (List.mem_append_right _ (List.mem_append_left _ (List.mem_of_getElem? (l := tables_1_6) (i := 9) rfl)))))))) rfl), ini_14, by decide +kernel, by decide +kernel⟩
set_option maxRecDepth 100000 in
theorem mi_200 : Jvm.Cond.instanceMethod pm_200.2.1 ∈ gtb ∧ Jvm.Cond.selects pm_200.2.1.cls pm_200.2.1 pm_200.2.1 ∈ gtb := ⟨(gw (List.mem_append_right _ (List.mem_append_right _ (List.mem_append_right _ (List.mem_append_right _ (List.mem_append_right _ (List.mem_append_right _ (List.mem_append_left _ (List.mem_of_getElem? (l := tables_1_6) (i := 7) rfl)))))))) rfl), (gw (List.mem_append_right _ (List.mem_append_right _ (List.mem_append_right _ (List.mem_append_right _ (List.mem_append_right _ (List.mem_append_right _ (List.mem_append_left _ (List.mem_of_getElem? (l := tables_1_6) (i := 8) rfl)))))))) rfl)⟩
set_option maxRecDepth 100000 in
theorem ml_279 : MPr [15, 43, 1, 200, 3, 1, 9] := ⟨"OneAtATimeLaw", pm_200, ("OneAtATimeModel", kT9, 29), rfl, rfl, rfl, rfl, (gw (List.mem_append_right _ (List.mem_append_right _ (List.mem_append_right _ (List.mem_append_right _ (List.mem_append_right _ (List.mem_append_right _ (List.mem_append_left _ (List.mem_of_getElem? (l := tables_1_6) (i := 6) rfl)))))))) rfl), mi_200, mf_200, rfl, Nat.le_of_ble_eq_true rfl⟩
set_option maxRecDepth 100000 in
theorem mf_65 : MFr pm_65 2 := ⟨(gw (List.mem_append_right _ (List.mem_append_right _ (List.mem_append_right _ (List.mem_append_left _ (List.mem_of_getElem? (l := tables_1_3) (i := 62) rfl))))) rfl), ini_0, by decide +kernel, by decide +kernel⟩
set_option maxRecDepth 100000 in
theorem mi_65 : Jvm.Cond.instanceMethod pm_65.2.1 ∈ gtb ∧ Jvm.Cond.selects pm_65.2.1.cls pm_65.2.1 pm_65.2.1 ∈ gtb := ⟨(gw (List.mem_append_right _ (List.mem_append_right _ (List.mem_append_right _ (List.mem_append_left _ (List.mem_of_getElem? (l := tables_1_3) (i := 60) rfl))))) rfl), (gw (List.mem_append_right _ (List.mem_append_right _ (List.mem_append_right _ (List.mem_append_left _ (List.mem_of_getElem? (l := tables_1_3) (i := 61) rfl))))) rfl)⟩
set_option maxRecDepth 100000 in
theorem ml_280 : MPr [15, 44, 1, 65, 3, 1, 8] := ⟨"OneAtATimeLaw", pm_65, ("OneAtATime", kT8, 9), rfl, rfl, rfl, rfl, (gw (List.mem_append_right _ (List.mem_append_right _ (List.mem_append_right _ (List.mem_append_left _ (List.mem_of_getElem? (l := tables_1_3) (i := 59) rfl))))) rfl), mi_65, mf_65, rfl, Nat.le_of_ble_eq_true rfl⟩
set_option maxRecDepth 100000 in
theorem mf_218 : MFr pm_218 2 := ⟨(gw (List.mem_append_right _ (List.mem_append_right _ (List.mem_append_right _ (List.mem_append_right _ (List.mem_append_right _ (List.mem_append_right _ (List.mem_append_left _ (List.mem_of_getElem? (l := tables_1_6) (i := 82) rfl)))))))) rfl), ini_14, by decide +kernel, by decide +kernel⟩
set_option maxRecDepth 100000 in
theorem mi_218 : Jvm.Cond.instanceMethod pm_218.2.1 ∈ gtb ∧ Jvm.Cond.selects pm_218.2.1.cls pm_218.2.1 pm_218.2.1 ∈ gtb := ⟨(gw (List.mem_append_right _ (List.mem_append_right _ (List.mem_append_right _ (List.mem_append_right _ (List.mem_append_right _ (List.mem_append_right _ (List.mem_append_left _ (List.mem_of_getElem? (l := tables_1_6) (i := 80) rfl)))))))) rfl), (gw (List.mem_append_right _ (List.mem_append_right _ (List.mem_append_right _ (List.mem_append_right _ (List.mem_append_right _ (List.mem_append_right _ (List.mem_append_left _ (List.mem_of_getElem? (l := tables_1_6) (i := 81) rfl)))))))) rfl)⟩
set_option maxRecDepth 100000 in
theorem ml_281 : MPr [15, 47, 1, 218, 3, 1, 9] := ⟨"OneAtATimeLaw", pm_218, ("OneAtATimeModel", kT9, 29), rfl, rfl, rfl, rfl, (gw (List.mem_append_right _ (List.mem_append_right _ (List.mem_append_right _ (List.mem_append_right _ (List.mem_append_right _ (List.mem_append_right _ (List.mem_append_left _ (List.mem_of_getElem? (l := tables_1_6) (i := 79) rfl)))))))) rfl), mi_218, mf_218, rfl, Nat.le_of_ble_eq_true rfl⟩
set_option maxRecDepth 100000 in
theorem mf_66 : MFr pm_66 2 := ⟨(gw (List.mem_append_right _ (List.mem_append_right _ (List.mem_append_right _ (List.mem_append_left _ (List.mem_of_getElem? (l := tables_1_3) (i := 66) rfl))))) rfl), ini_0, by decide +kernel, by decide +kernel⟩
set_option maxRecDepth 100000 in
theorem mi_66 : Jvm.Cond.instanceMethod pm_66.2.1 ∈ gtb ∧ Jvm.Cond.selects pm_66.2.1.cls pm_66.2.1 pm_66.2.1 ∈ gtb := ⟨(gw (List.mem_append_right _ (List.mem_append_right _ (List.mem_append_right _ (List.mem_append_left _ (List.mem_of_getElem? (l := tables_1_3) (i := 64) rfl))))) rfl), (gw (List.mem_append_right _ (List.mem_append_right _ (List.mem_append_right _ (List.mem_append_left _ (List.mem_of_getElem? (l := tables_1_3) (i := 65) rfl))))) rfl)⟩
set_option maxRecDepth 100000 in
theorem ml_282 : MPr [15, 48, 1, 66, 3, 1, 8] := ⟨"OneAtATimeLaw", pm_66, ("OneAtATime", kT8, 9), rfl, rfl, rfl, rfl, (gw (List.mem_append_right _ (List.mem_append_right _ (List.mem_append_right _ (List.mem_append_left _ (List.mem_of_getElem? (l := tables_1_3) (i := 63) rfl))))) rfl), mi_66, mf_66, rfl, Nat.le_of_ble_eq_true rfl⟩
set_option maxRecDepth 100000 in
theorem mf_219 : MFr pm_219 2 := ⟨(gw (List.mem_append_right _ (List.mem_append_right _ (List.mem_append_right _ (List.mem_append_right _ (List.mem_append_right _ (List.mem_append_right _ (List.mem_append_left _ (List.mem_of_getElem? (l := tables_1_6) (i := 86) rfl)))))))) rfl), ini_14, by decide +kernel, by decide +kernel⟩
set_option maxRecDepth 100000 in
theorem mi_219 : Jvm.Cond.instanceMethod pm_219.2.1 ∈ gtb ∧ Jvm.Cond.selects pm_219.2.1.cls pm_219.2.1 pm_219.2.1 ∈ gtb := ⟨(gw (List.mem_append_right _ (List.mem_append_right _ (List.mem_append_right _ (List.mem_append_right _ (List.mem_append_right _ (List.mem_append_right _ (List.mem_append_left _ (List.mem_of_getElem? (l := tables_1_6) (i := 84) rfl)))))))) rfl), (gw (List.mem_append_right _ (List.mem_append_right _ (List.mem_append_right _ (List.mem_append_right _ (List.mem_append_right _ (List.mem_append_right _ (List.mem_append_left _ (List.mem_of_getElem? (l := tables_1_6) (i := 85) rfl)))))))) rfl)⟩
set_option maxRecDepth 100000 in
theorem ml_283 : MPr [15, 51, 1, 219, 3, 1, 9] := ⟨"OneAtATimeLaw", pm_219, ("OneAtATimeModel", kT9, 29), rfl, rfl, rfl, rfl, (gw (List.mem_append_right _ (List.mem_append_right _ (List.mem_append_right _ (List.mem_append_right _ (List.mem_append_right _ (List.mem_append_right _ (List.mem_append_left _ (List.mem_of_getElem? (l := tables_1_6) (i := 83) rfl)))))))) rfl), mi_219, mf_219, rfl, Nat.le_of_ble_eq_true rfl⟩
set_option maxRecDepth 100000 in
theorem mf_67 : MFr pm_67 3 := ⟨(gw (List.mem_append_right _ (List.mem_append_right _ (List.mem_append_right _ (List.mem_append_left _ (List.mem_of_getElem? (l := tables_1_3) (i := 70) rfl))))) rfl), ini_0, by decide +kernel, by decide +kernel⟩
set_option maxRecDepth 100000 in
theorem mi_67 : Jvm.Cond.instanceMethod pm_67.2.1 ∈ gtb ∧ Jvm.Cond.selects pm_67.2.1.cls pm_67.2.1 pm_67.2.1 ∈ gtb := ⟨(gw (List.mem_append_right _ (List.mem_append_right _ (List.mem_append_right _ (List.mem_append_left _ (List.mem_of_getElem? (l := tables_1_3) (i := 68) rfl))))) rfl), (gw (List.mem_append_right _ (List.mem_append_right _ (List.mem_append_right _ (List.mem_append_left _ (List.mem_of_getElem? (l := tables_1_3) (i := 69) rfl))))) rfl)⟩
set_option maxRecDepth 100000 in
theorem ml_284 : MPr [15, 52, 1, 67, 4, 1, 8] := ⟨"OneAtATimeLaw", pm_67, ("OneAtATime", kT8, 9), rfl, rfl, rfl, rfl, (gw (List.mem_append_right _ (List.mem_append_right _ (List.mem_append_right _ (List.mem_append_left _ (List.mem_of_getElem? (l := tables_1_3) (i := 67) rfl))))) rfl), mi_67, mf_67, rfl, Nat.le_of_ble_eq_true rfl⟩
set_option maxRecDepth 100000 in
theorem mf_220 : MFr pm_220 3 := ⟨(gw (List.mem_append_right _ (List.mem_append_right _ (List.mem_append_right _ (List.mem_append_right _ (List.mem_append_right _ (List.mem_append_right _ (List.mem_append_left _ (List.mem_of_getElem? (l := tables_1_6) (i := 90) rfl)))))))) rfl), ini_14, by decide +kernel, by decide +kernel⟩
set_option maxRecDepth 100000 in
theorem mi_220 : Jvm.Cond.instanceMethod pm_220.2.1 ∈ gtb ∧ Jvm.Cond.selects pm_220.2.1.cls pm_220.2.1 pm_220.2.1 ∈ gtb := ⟨(gw (List.mem_append_right _ (List.mem_append_right _ (List.mem_append_right _ (List.mem_append_right _ (List.mem_append_right _ (List.mem_append_right _ (List.mem_append_left _ (List.mem_of_getElem? (l := tables_1_6) (i := 88) rfl)))))))) rfl), (gw (List.mem_append_right _ (List.mem_append_right _ (List.mem_append_right _ (List.mem_append_right _ (List.mem_append_right _ (List.mem_append_right _ (List.mem_append_left _ (List.mem_of_getElem? (l := tables_1_6) (i := 89) rfl)))))))) rfl)⟩
set_option maxRecDepth 100000 in
theorem ml_285 : MPr [15, 56, 1, 220, 4, 1, 9] := ⟨"OneAtATimeLaw", pm_220, ("OneAtATimeModel", kT9, 29), rfl, rfl, rfl, rfl, (gw (List.mem_append_right _ (List.mem_append_right _ (List.mem_append_right _ (List.mem_append_right _ (List.mem_append_right _ (List.mem_append_right _ (List.mem_append_left _ (List.mem_of_getElem? (l := tables_1_6) (i := 87) rfl)))))))) rfl), mi_220, mf_220, rfl, Nat.le_of_ble_eq_true rfl⟩
set_option maxRecDepth 100000 in
theorem mf_69 : MFr pm_69 2 := ⟨(gw (List.mem_append_right _ (List.mem_append_right _ (List.mem_append_right _ (List.mem_append_left _ (List.mem_of_getElem? (l := tables_1_3) (i := 78) rfl))))) rfl), ini_0, by decide +kernel, by decide +kernel⟩
set_option maxRecDepth 100000 in
theorem mi_69 : Jvm.Cond.instanceMethod pm_69.2.1 ∈ gtb ∧ Jvm.Cond.selects pm_69.2.1.cls pm_69.2.1 pm_69.2.1 ∈ gtb := ⟨(gw (List.mem_append_right _ (List.mem_append_right _ (List.mem_append_right _ (List.mem_append_left _ (List.mem_of_getElem? (l := tables_1_3) (i := 76) rfl))))) rfl), (gw (List.mem_append_right _ (List.mem_append_right _ (List.mem_append_right _ (List.mem_append_left _ (List.mem_of_getElem? (l := tables_1_3) (i := 77) rfl))))) rfl)⟩
set_option maxRecDepth 100000 in
theorem ml_286 : MPr [15, 57, 1, 69, 3, 1, 8] := ⟨"OneAtATimeLaw", pm_69, ("OneAtATime", kT8, 9), rfl, rfl, rfl, rfl, (gw (List.mem_append_right _ (List.mem_append_right _ (List.mem_append_right _ (List.mem_append_left _ (List.mem_of_getElem? (l := tables_1_3) (i := 75) rfl))))) rfl), mi_69, mf_69, rfl, Nat.le_of_ble_eq_true rfl⟩
set_option maxRecDepth 100000 in
theorem mf_222 : MFr pm_222 2 := ⟨(gw (List.mem_append_right _ (List.mem_append_right _ (List.mem_append_right _ (List.mem_append_right _ (List.mem_append_right _ (List.mem_append_right _ (List.mem_append_left _ (List.mem_of_getElem? (l := tables_1_6) (i := 98) rfl)))))))) rfl), ini_14, by decide +kernel, by decide +kernel⟩
set_option maxRecDepth 100000 in
theorem mi_222 : Jvm.Cond.instanceMethod pm_222.2.1 ∈ gtb ∧ Jvm.Cond.selects pm_222.2.1.cls pm_222.2.1 pm_222.2.1 ∈ gtb := ⟨(gw (List.mem_append_right _ (List.mem_append_right _ (List.mem_append_right _ (List.mem_append_right _ (List.mem_append_right _ (List.mem_append_right _ (List.mem_append_left _ (List.mem_of_getElem? (l := tables_1_6) (i := 96) rfl)))))))) rfl), (gw (List.mem_append_right _ (List.mem_append_right _ (List.mem_append_right _ (List.mem_append_right _ (List.mem_append_right _ (List.mem_append_right _ (List.mem_append_left _ (List.mem_of_getElem? (l := tables_1_6) (i := 97) rfl)))))))) rfl)⟩
set_option maxRecDepth 100000 in
theorem ml_287 : MPr [15, 60, 1, 222, 3, 1, 9] := ⟨"OneAtATimeLaw", pm_222, ("OneAtATimeModel", kT9, 29), rfl, rfl, rfl, rfl, (gw (List.mem_append_right _ (List.mem_append_right _ (List.mem_append_right _ (List.mem_append_right _ (List.mem_append_right _ (List.mem_append_right _ (List.mem_append_left _ (List.mem_of_getElem? (l := tables_1_6) (i := 95) rfl)))))))) rfl), mi_222, mf_222, rfl, Nat.le_of_ble_eq_true rfl⟩
set_option maxRecDepth 100000 in
theorem mf_71 : MFr pm_71 2 := ⟨(gw (List.mem_append_right _ (List.mem_append_right _ (List.mem_append_right _ (List.mem_append_left _ (List.mem_of_getElem? (l := tables_1_3) (i := 86) rfl))))) rfl), ini_0, by decide +kernel, by decide +kernel⟩
set_option maxRecDepth 100000 in
theorem mi_71 : Jvm.Cond.instanceMethod pm_71.2.1 ∈ gtb ∧ Jvm.Cond.selects pm_71.2.1.cls pm_71.2.1 pm_71.2.1 ∈ gtb := ⟨(gw (List.mem_append_right _ (List.mem_append_right _ (List.mem_append_right _ (List.mem_append_left _ (List.mem_of_getElem? (l := tables_1_3) (i := 84) rfl))))) rfl), (gw (List.mem_append_right _ (List.mem_append_right _ (List.mem_append_right _ (List.mem_append_left _ (List.mem_of_getElem? (l := tables_1_3) (i := 85) rfl))))) rfl)⟩
set_option maxRecDepth 100000 in
theorem ml_288 : MPr [15, 61, 1, 71, 3, 1, 8] := ⟨"OneAtATimeLaw", pm_71, ("OneAtATime", kT8, 9), rfl, rfl, rfl, rfl, (gw (List.mem_append_right _ (List.mem_append_right _ (List.mem_append_right _ (List.mem_append_left _ (List.mem_of_getElem? (l := tables_1_3) (i := 83) rfl))))) rfl), mi_71, mf_71, rfl, Nat.le_of_ble_eq_true rfl⟩
set_option maxRecDepth 100000 in
theorem mf_223 : MFr pm_223 2 := ⟨(gw (List.mem_append_right _ (List.mem_append_right _ (List.mem_append_right _ (List.mem_append_right _ (List.mem_append_right _ (List.mem_append_right _ (List.mem_append_left _ (List.mem_of_getElem? (l := tables_1_6) (i := 102) rfl)))))))) rfl), ini_14, by decide +kernel, by decide +kernel⟩
set_option maxRecDepth 100000 in
theorem mi_223 : Jvm.Cond.instanceMethod pm_223.2.1 ∈ gtb ∧ Jvm.Cond.selects pm_223.2.1.cls pm_223.2.1 pm_223.2.1 ∈ gtb := ⟨(gw (List.mem_append_right _ (List.mem_append_right _ (List.mem_append_right _ (List.mem_append_right _ (List.mem_append_right _ (List.mem_append_right _ (List.mem_append_left _ (List.mem_of_getElem? (l := tables_1_6) (i := 100) rfl)))))))) rfl), (gw (List.mem_append_right _ (List.mem_append_right _ (List.mem_append_right _ (List.mem_append_right _ (List.mem_append_right _ (List.mem_append_right _ (List.mem_append_left _ (List.mem_of_getElem? (l := tables_1_6) (i := 101) rfl)))))))) rfl)⟩
set_option maxRecDepth 100000 in
theorem ml_289 : MPr [15, 64, 1, 223, 3, 1, 9] := ⟨"OneAtATimeLaw", pm_223, ("OneAtATimeModel", kT9, 29), rfl, rfl, rfl, rfl, (gw (List.mem_append_right _ (List.mem_append_right _ (List.mem_append_right _ (List.mem_append_right _ (List.mem_append_right _ (List.mem_append_right _ (List.mem_append_left _ (List.mem_of_getElem? (l := tables_1_6) (i := 99) rfl)))))))) rfl), mi_223, mf_223, rfl, Nat.le_of_ble_eq_true rfl⟩
set_option maxRecDepth 100000 in
theorem mf_73 : MFr pm_73 2 := ⟨(gw (List.mem_append_right _ (List.mem_append_right _ (List.mem_append_right _ (List.mem_append_left _ (List.mem_of_getElem? (l := tables_1_3) (i := 95) rfl))))) rfl), ini_0, by decide +kernel, by decide +kernel⟩
set_option maxRecDepth 100000 in
theorem mi_73 : Jvm.Cond.instanceMethod pm_73.2.1 ∈ gtb ∧ Jvm.Cond.selects pm_73.2.1.cls pm_73.2.1 pm_73.2.1 ∈ gtb := ⟨(gw (List.mem_append_right _ (List.mem_append_right _ (List.mem_append_right _ (List.mem_append_left _ (List.mem_of_getElem? (l := tables_1_3) (i := 93) rfl))))) rfl), (gw (List.mem_append_right _ (List.mem_append_right _ (List.mem_append_right _ (List.mem_append_left _ (List.mem_of_getElem? (l := tables_1_3) (i := 94) rfl))))) rfl)⟩
set_option maxRecDepth 100000 in
theorem ml_290 : MPr [15, 65, 1, 73, 3, 1, 8] := ⟨"OneAtATimeLaw", pm_73, ("OneAtATime", kT8, 9), rfl, rfl, rfl, rfl, (gw (List.mem_append_right _ (List.mem_append_right _ (List.mem_append_right _ (List.mem_append_left _ (List.mem_of_getElem? (l := tables_1_3) (i := 92) rfl))))) rfl), mi_73, mf_73, rfl, Nat.le_of_ble_eq_true rfl⟩
set_option maxRecDepth 100000 in
theorem ml_291 : MPr [15, 68, 1, 226, 3, 1, 9] := ⟨"OneAtATimeLaw", pm_226, ("OneAtATimeModel", kT9, 29), rfl, rfl, rfl, rfl, (gw (List.mem_append_right _ (List.mem_append_right _ (List.mem_append_right _ (List.mem_append_right _ (List.mem_append_right _ (List.mem_append_right _ (List.mem_append_left _ (List.mem_of_getElem? (l := tables_1_6) (i := 111) rfl)))))))) rfl), mi_226, mf_226, rfl, Nat.le_of_ble_eq_true rfl⟩
set_option maxRecDepth 100000 in
theorem mf_75 : MFr pm_75 1 := ⟨(gw (List.mem_append_right _ (List.mem_append_right _ (List.mem_append_right _ (List.mem_append_left _ (List.mem_of_getElem? (l := tables_1_3) (i := 103) rfl))))) rfl), ini_0, by decide +kernel, by decide +kernel⟩
set_option maxRecDepth 100000 in
theorem mi_75 : Jvm.Cond.instanceMethod pm_75.2.1 ∈ gtb ∧ Jvm.Cond.selects pm_75.2.1.cls pm_75.2.1 pm_75.2.1 ∈ gtb := ⟨(gw (List.mem_append_right _ (List.mem_append_right _ (List.mem_append_right _ (List.mem_append_left _ (List.mem_of_getElem? (l := tables_1_3) (i := 101) rfl))))) rfl), (gw (List.mem_append_right _ (List.mem_append_right _ (List.mem_append_right _ (List.mem_append_left _ (List.mem_of_getElem? (l := tables_1_3) (i := 102) rfl))))) rfl)⟩
set_option maxRecDepth 100000 in
theorem ml_292 : MPr [15, 69, 1, 75, 2, 1, 8] := ⟨"OneAtATimeLaw", pm_75, ("OneAtATime", kT8, 9), rfl, rfl, rfl, rfl, (gw (List.mem_append_right _ (List.mem_append_right _ (List.mem_append_right _ (List.mem_append_left _ (List.mem_of_getElem? (l := tables_1_3) (i := 100) rfl))))) rfl), mi_75, mf_75, rfl, Nat.le_of_ble_eq_true rfl⟩
set_option maxRecDepth 100000 in
theorem mf_227 : MFr pm_227 1 := ⟨(gw (List.mem_append_right _ (List.mem_append_right _ (List.mem_append_right _ (List.mem_append_right _ (List.mem_append_right _ (List.mem_append_right _ (List.mem_append_left _ (List.mem_of_getElem? (l := tables_1_6) (i := 118) rfl)))))))) rfl), ini_14, by decide +kernel, by decide +kernel⟩
set_option maxRecDepth 100000 in
theorem mi_227 : Jvm.Cond.instanceMethod pm_227.2.1 ∈ gtb ∧ Jvm.Cond.selects pm_227.2.1.cls pm_227.2.1 pm_227.2.1 ∈ gtb := ⟨(gw (List.mem_append_right _ (List.mem_append_right _ (List.mem_append_right _ (List.mem_append_right _ (List.mem_append_right _ (List.mem_append_right _ (List.mem_append_left _ (List.mem_of_getElem? (l := tables_1_6) (i := 116) rfl)))))))) rfl), (gw (List.mem_append_right _ (List.mem_append_right _ (List.mem_append_right _ (List.mem_append_right _ (List.mem_append_right _ (List.mem_append_right _ (List.mem_append_left _ (List.mem_of_getElem? (l := tables_1_6) (i := 117) rfl)))))))) rfl)⟩
set_option maxRecDepth 100000 in
theorem ml_293 : MPr [15, 72, 1, 227, 2, 1, 9] := ⟨"OneAtATimeLaw", pm_227, ("OneAtATimeModel", kT9, 29), rfl, rfl, rfl, rfl, (gw (List.mem_append_right _ (List.mem_append_right _ (List.mem_append_right _ (List.mem_append_right _ (List.mem_append_right _ (List.mem_append_right _ (List.mem_append_left _ (List.mem_of_getElem? (l := tables_1_6) (i := 115) rfl)))))))) rfl), mi_227, mf_227, rfl, Nat.le_of_ble_eq_true rfl⟩
set_option maxRecDepth 100000 in
theorem mf_77 : MFr pm_77 2 := ⟨(gw (List.mem_append_right _ (List.mem_append_right _ (List.mem_append_right _ (List.mem_append_left _ (List.mem_of_getElem? (l := tables_1_3) (i := 110) rfl))))) rfl), ini_0, by decide +kernel, by decide +kernel⟩
set_option maxRecDepth 100000 in
theorem mi_77 : Jvm.Cond.instanceMethod pm_77.2.1 ∈ gtb ∧ Jvm.Cond.selects pm_77.2.1.cls pm_77.2.1 pm_77.2.1 ∈ gtb := ⟨(gw (List.mem_append_right _ (List.mem_append_right _ (List.mem_append_right _ (List.mem_append_left _ (List.mem_of_getElem? (l := tables_1_3) (i := 108) rfl))))) rfl), (gw (List.mem_append_right _ (List.mem_append_right _ (List.mem_append_right _ (List.mem_append_left _ (List.mem_of_getElem? (l := tables_1_3) (i := 109) rfl))))) rfl)⟩
set_option maxRecDepth 100000 in
theorem ml_294 : MPr [15, 73, 1, 77, 3, 1, 8] := ⟨"OneAtATimeLaw", pm_77, ("OneAtATime", kT8, 9), rfl, rfl, rfl, rfl, (gw (List.mem_append_right _ (List.mem_append_right _ (List.mem_append_right _ (List.mem_append_left _ (List.mem_of_getElem? (l := tables_1_3) (i := 107) rfl))))) rfl), mi_77, mf_77, rfl, Nat.le_of_ble_eq_true rfl⟩
set_option maxRecDepth 100000 in
theorem mf_228 : MFr pm_228 2 := ⟨(gw (List.mem_append_right _ (List.mem_append_right _ (List.mem_append_right _ (List.mem_append_right _ (List.mem_append_right _ (List.mem_append_right _ (List.mem_append_left _ (List.mem_of_getElem? (l := tables_1_6) (i := 123) rfl)))))))) rfl), ini_14, by decide +kernel, by decide +kernel⟩
set_option maxRecDepth 100000 in
theorem mi_228 : Jvm.Cond.instanceMethod pm_228.2.1 ∈ gtb ∧ Jvm.Cond.selects pm_228.2.1.cls pm_228.2.1 pm_228.2.1 ∈ gtb := ⟨(gw (List.mem_append_right _ (List.mem_append_right _ (List.mem_append_right _ (List.mem_append_right _ (List.mem_append_right _ (List.mem_append_right _ (List.mem_append_left _ (List.mem_of_getElem? (l := tables_1_6) (i := 121) rfl)))))))) rfl), (gw (List.mem_append_right _ (List.mem_append_right _ (List.mem_append_right _ (List.mem_append_right _ (List.mem_append_right _ (List.mem_append_right _ (List.mem_append_left _ (List.mem_of_getElem? (l := tables_1_6) (i := 122) rfl)))))))) rfl)⟩
set_option maxRecDepth 100000 in
theorem ml_295 : MPr [15, 76, 1, 228, 3, 1, 9] := ⟨"OneAtATimeLaw", pm_228, ("OneAtATimeModel", kT9, 29), rfl, rfl, rfl, rfl, (gw (List.mem_append_right _ (List.mem_append_right _ (List.mem_append_right _ (List.mem_append_right _ (List.mem_append_right _ (List.mem_append_right _ (List.mem_append_left _ (List.mem_of_getElem? (l := tables_1_6) (i := 120) rfl)))))))) rfl), mi_228, mf_228, rfl, Nat.le_of_ble_eq_true rfl⟩
set_option maxRecDepth 100000 in
theorem mf_81 : MFr pm_81 3 := ⟨(gw (List.mem_append_right _ (List.mem_append_right _ (List.mem_append_right _ (List.mem_append_left _ (List.mem_of_getElem? (l := tables_1_3) (i := 124) rfl))))) rfl), ini_0, by decide +kernel, by decide +kernel⟩
set_option maxRecDepth 100000 in
theorem mi_81 : Jvm.Cond.instanceMethod pm_81.2.1 ∈ gtb ∧ Jvm.Cond.selects pm_81.2.1.cls pm_81.2.1 pm_81.2.1 ∈ gtb := ⟨(gw (List.mem_append_right _ (List.mem_append_right _ (List.mem_append_right _ (List.mem_append_left _ (List.mem_of_getElem? (l := tables_1_3) (i := 122) rfl))))) rfl), (gw (List.mem_append_right _ (List.mem_append_right _ (List.mem_append_right _ (List.mem_append_left _ (List.mem_of_getElem? (l := tables_1_3) (i := 123) rfl))))) rfl)⟩
set_option maxRecDepth 100000 in
theorem ml_296 : MPr [15, 77, 1, 81, 4, 1, 8] := ⟨"OneAtATimeLaw", pm_81, ("OneAtATime", kT8, 9), rfl, rfl, rfl, rfl, (gw (List.mem_append_right _ (List.mem_append_right _ (List.mem_append_right _ (List.mem_append_left _ (List.mem_of_getElem? (l := tables_1_3) (i := 121) rfl))))) rfl), mi_81, mf_81, rfl, Nat.le_of_ble_eq_true rfl⟩
set_option maxRecDepth 100000 in
theorem mf_230 : MFr pm_230 3 := ⟨(gw (List.mem_append_right _ (List.mem_append_right _ (List.mem_append_right _ (List.mem_append_right _ (List.mem_append_right _ (List.mem_append_right _ (List.mem_append_left _ (List.mem_of_getElem? (l := tables_1_6) (i := 131) rfl)))))))) rfl), ini_14, by decide +kernel, by decide +kernel⟩
set_option maxRecDepth 100000 in
theorem mi_230 : Jvm.Cond.instanceMethod pm_230.2.1 ∈ gtb ∧ Jvm.Cond.selects pm_230.2.1.cls pm_230.2.1 pm_230.2.1 ∈ gtb := ⟨(gw (List.mem_append_right _ (List.mem_append_right _ (List.mem_append_right _ (List.mem_append_right _ (List.mem_append_right _ (List.mem_append_right _ (List.mem_append_left _ (List.mem_of_getElem? (l := tables_1_6) (i := 129) rfl)))))))) rfl), (gw (List.mem_append_right _ (List.mem_append_right _ (List.mem_append_right _ (List.mem_append_right _ (List.mem_append_right _ (List.mem_append_right _ (List.mem_append_left _ (List.mem_of_getElem? (l := tables_1_6) (i := 130) rfl)))))))) rfl)⟩
set_option maxRecDepth 100000 in
theorem ml_297 : MPr [15, 80, 1, 230, 4, 1, 9] := ⟨"OneAtATimeLaw", pm_230, ("OneAtATimeModel", kT9, 29), rfl, rfl, rfl, rfl, (gw (List.mem_append_right _ (List.mem_append_right _ (List.mem_append_right _ (List.mem_append_right _ (List.mem_append_right _ (List.mem_append_right _ (List.mem_append_left _ (List.mem_of_getElem? (l := tables_1_6) (i := 128) rfl)))))))) rfl), mi_230, mf_230, rfl, Nat.le_of_ble_eq_true rfl⟩
set_option maxRecDepth 100000 in
theorem mf_84 : MFr pm_84 3 := ⟨(gw (List.mem_append_right _ (List.mem_append_right _ (List.mem_append_right _ (List.mem_append_left _ (List.mem_of_getElem? (l := tables_1_3) (i := 134) rfl))))) rfl), ini_0, by decide +kernel, by decide +kernel⟩
set_option maxRecDepth 100000 in
theorem mi_84 : Jvm.Cond.instanceMethod pm_84.2.1 ∈ gtb ∧ Jvm.Cond.selects pm_84.2.1.cls pm_84.2.1 pm_84.2.1 ∈ gtb := ⟨(gw (List.mem_append_right _ (List.mem_append_right _ (List.mem_append_right _ (List.mem_append_left _ (List.mem_of_getElem? (l := tables_1_3) (i := 132) rfl))))) rfl), (gw (List.mem_append_right _ (List.mem_append_right _ (List.mem_append_right _ (List.mem_append_left _ (List.mem_of_getElem? (l := tables_1_3) (i := 133) rfl))))) rfl)⟩
set_option maxRecDepth 100000 in
theorem ml_298 : MPr [15, 81, 1, 84, 4, 1, 8] := ⟨"OneAtATimeLaw", pm_84, ("OneAtATime", kT8, 9), rfl, rfl, rfl, rfl, (gw (List.mem_append_right _ (List.mem_append_right _ (List.mem_append_right _ (List.mem_append_left _ (List.mem_of_getElem? (l := tables_1_3) (i := 131) rfl))))) rfl), mi_84, mf_84, rfl, Nat.le_of_ble_eq_true rfl⟩
set_option maxRecDepth 100000 in
theorem mf_232 : MFr pm_232 3 := ⟨(gw (List.mem_append_right _ (List.mem_append_right _ (List.mem_append_right _ (List.mem_append_right _ (List.mem_append_right _ (List.mem_append_right _ (List.mem_append_left _ (List.mem_of_getElem? (l := tables_1_6) (i := 139) rfl)))))))) rfl), ini_14, by decide +kernel, by decide +kernel⟩
set_option maxRecDepth 100000 in
theorem mi_232 : Jvm.Cond.instanceMethod pm_232.2.1 ∈ gtb ∧ Jvm.Cond.selects pm_232.2.1.cls pm_232.2.1 pm_232.2.1 ∈ gtb := ⟨(gw (List.mem_append_right _ (List.mem_append_right _ (List.mem_append_right _ (List.mem_append_right _ (List.mem_append_right _ (List.mem_append_right _ (List.mem_append_left _ (List.mem_of_getElem? (l := tables_1_6) (i := 137) rfl)))))))) rfl), (gw (List.mem_append_right _ (List.mem_append_right _ (List.mem_append_right _ (List.mem_append_right _ (List.mem_append_right _ (List.mem_append_right _ (List.mem_append_left _ (List.mem_of_getElem? (l := tables_1_6) (i := 138) rfl)))))))) rfl)⟩
set_option maxRecDepth 100000 in
theorem ml_299 : MPr [15, 84, 1, 232, 4, 1, 9] := ⟨"OneAtATimeLaw", pm_232, ("OneAtATimeModel", kT9, 29), rfl, rfl, rfl, rfl, (gw (List.mem_append_right _ (List.mem_append_right _ (List.mem_append_right _ (List.mem_append_right _ (List.mem_append_right _ (List.mem_append_right _ (List.mem_append_left _ (List.mem_of_getElem? (l := tables_1_6) (i := 136) rfl)))))))) rfl), mi_232, mf_232, rfl, Nat.le_of_ble_eq_true rfl⟩
set_option maxRecDepth 100000 in
theorem mf_86 : MFr pm_86 3 := ⟨(gw (List.mem_append_right _ (List.mem_append_right _ (List.mem_append_right _ (List.mem_append_left _ (List.mem_of_getElem? (l := tables_1_3) (i := 141) rfl))))) rfl), ini_0, by decide +kernel, by decide +kernel⟩
set_option maxRecDepth 100000 in
theorem mi_86 : Jvm.Cond.instanceMethod pm_86.2.1 ∈ gtb ∧ Jvm.Cond.selects pm_86.2.1.cls pm_86.2.1 pm_86.2.1 ∈ gtb := ⟨(gw (List.mem_append_right _ (List.mem_append_right _ (List.mem_append_right _ (List.mem_append_left _ (List.mem_of_getElem? (l := tables_1_3) (i := 139) rfl))))) rfl), (gw (List.mem_append_right _ (List.mem_append_right _ (List.mem_append_right _ (List.mem_append_left _ (List.mem_of_getElem? (l := tables_1_3) (i := 140) rfl))))) rfl)⟩
set_option maxRecDepth 100000 in
theorem ml_300 : MPr [15, 85, 1, 86, 4, 1, 8] := ⟨"OneAtATimeLaw", pm_86, ("OneAtATime", kT8, 9), rfl, rfl, rfl, rfl, (gw (List.mem_append_right _ (List.mem_append_right _ (List.mem_append_right _ (List.mem_append_left _ (List.mem_of_getElem? (l := tables_1_3) (i := 138) rfl))))) rfl), mi_86, mf_86, rfl, Nat.le_of_ble_eq_true rfl⟩
set_option maxRecDepth 100000 in
theorem mf_233 : MFr pm_233 3 := ⟨(gw (List.mem_append_right _ (List.mem_append_right _ (List.mem_append_right _ (List.mem_append_right _ (List.mem_append_right _ (List.mem_append_right _ (List.mem_append_left _ (List.mem_of_getElem? (l := tables_1_6) (i := 143) rfl)))))))) rfl), ini_14, by decide +kernel, by decide +kernel⟩
set_option maxRecDepth 100000 in
theorem mi_233 : Jvm.Cond.instanceMethod pm_233.2.1 ∈ gtb ∧ Jvm.Cond.selects pm_233.2.1.cls pm_233.2.1 pm_233.2.1 ∈ gtb := ⟨(gw (List.mem_append_right _ (List.mem_append_right _ (List.mem_append_right _ (List.mem_append_right _ (List.mem_append_right _ (List.mem_append_right _ (List.mem_append_left _ (List.mem_of_getElem? (l := tables_1_6) (i := 141) rfl)))))))) rfl), (gw (List.mem_append_right _ (List.mem_append_right _ (List.mem_append_right _ (List.mem_append_right _ (List.mem_append_right _ (List.mem_append_right _ (List.mem_append_left _ (List.mem_of_getElem? (l := tables_1_6) (i := 142) rfl)))))))) rfl)⟩
set_option maxRecDepth 100000 in
theorem ml_301 : MPr [15, 88, 1, 233, 4, 1, 9] := ⟨"OneAtATimeLaw", pm_233, ("OneAtATimeModel", kT9, 29), rfl, rfl, rfl, rfl, (gw (List.mem_append_right _ (List.mem_append_right _ (List.mem_append_right _ (List.mem_append_right _ (List.mem_append_right _ (List.mem_append_right _ (List.mem_append_left _ (List.mem_of_getElem? (l := tables_1_6) (i := 140) rfl)))))))) rfl), mi_233, mf_233, rfl, Nat.le_of_ble_eq_true rfl⟩
set_option maxRecDepth 100000 in
theorem mf_88 : MFr pm_88 2 := ⟨(gw (List.mem_append_right _ (List.mem_append_right _ (List.mem_append_right _ (List.mem_append_left _ (List.mem_of_getElem? (l := tables_1_3) (i := 149) rfl))))) rfl), ini_0, by decide +kernel, by decide +kernel⟩
set_option maxRecDepth 100000 in
theorem mi_88 : Jvm.Cond.instanceMethod pm_88.2.1 ∈ gtb ∧ Jvm.Cond.selects pm_88.2.1.cls pm_88.2.1 pm_88.2.1 ∈ gtb := ⟨(gw (List.mem_append_right _ (List.mem_append_right _ (List.mem_append_right _ (List.mem_append_left _ (List.mem_of_getElem? (l := tables_1_3) (i := 147) rfl))))) rfl), (gw (List.mem_append_right _ (List.mem_append_right _ (List.mem_append_right _ (List.mem_append_left _ (List.mem_of_getElem? (l := tables_1_3) (i := 148) rfl))))) rfl)⟩
set_option maxRecDepth 100000 in
theorem ml_302 : MPr [15, 89, 1, 88, 3, 1, 8] := ⟨"OneAtATimeLaw", pm_88, ("OneAtATime", kT8, 9), rfl, rfl, rfl, rfl, (gw (List.mem_append_right _ (List.mem_append_right _ (List.mem_append_right _ (List.mem_append_left _ (List.mem_of_getElem? (l := tables_1_3) (i := 146) rfl))))) rfl), mi_88, mf_88, rfl, Nat.le_of_ble_eq_true rfl⟩
set_option maxRecDepth 100000 in
theorem mf_239 : MFr pm_239 2 := ⟨(gw (List.mem_append_right _ (List.mem_append_right _ (List.mem_append_right _ (List.mem_append_right _ (List.mem_append_right _ (List.mem_append_right _ (List.mem_append_left _ (List.mem_of_getElem? (l := tables_1_6) (i := 167) rfl)))))))) rfl), ini_14, by decide +kernel, by decide +kernel⟩
set_option maxRecDepth 100000 in
theorem mi_239 : Jvm.Cond.instanceMethod pm_239.2.1 ∈ gtb ∧ Jvm.Cond.selects pm_239.2.1.cls pm_239.2.1 pm_239.2.1 ∈ gtb := ⟨(gw (List.mem_append_right _ (List.mem_append_right _ (List.mem_append_right _ (List.mem_append_right _ (List.mem_append_right _ (List.mem_append_right _ (List.mem_append_left _ (List.mem_of_getElem? (l := tables_1_6) (i := 165) rfl)))))))) rfl), (gw (List.mem_append_right _ (List.mem_append_right _ (List.mem_append_right _ (List.mem_append_right _ (List.mem_append_right _ (List.mem_append_right _ (List.mem_append_left _ (List.mem_of_getElem? (l := tables_1_6) (i := 166) rfl)))))))) rfl)⟩
set_option maxRecDepth 100000 in
theorem ml_303 : MPr [15, 92, 1, 239, 3, 1, 9] := ⟨"OneAtATimeLaw", pm_239, ("OneAtATimeModel", kT9, 29), rfl, rfl, rfl, rfl, (gw (List.mem_append_right _ (List.mem_append_right _ (List.mem_append_right _ (List.mem_append_right _ (List.mem_append_right _ (List.mem_append_right _ (List.mem_append_left _ (List.mem_of_getElem? (l := tables_1_6) (i := 164) rfl)))))))) rfl), mi_239, mf_239, rfl, Nat.le_of_ble_eq_true rfl⟩
set_option maxRecDepth 100000 in
theorem mf_89 : MFr pm_89 2 := ⟨(gw (List.mem_append_right _ (List.mem_append_right _ (List.mem_append_right _ (List.mem_append_left _ (List.mem_of_getElem? (l := tables_1_3) (i := 154) rfl))))) rfl), ini_0, by decide +kernel, by decide +kernel⟩
set_option maxRecDepth 100000 in
theorem mi_89 : Jvm.Cond.instanceMethod pm_89.2.1 ∈ gtb ∧ Jvm.Cond.selects pm_89.2.1.cls pm_89.2.1 pm_89.2.1 ∈ gtb := ⟨(gw (List.mem_append_right _ (List.mem_append_right _ (List.mem_append_right _ (List.mem_append_left _ (List.mem_of_getElem? (l := tables_1_3) (i := 152) rfl))))) rfl), (gw (List.mem_append_right _ (List.mem_append_right _ (List.mem_append_right _ (List.mem_append_left _ (List.mem_of_getElem? (l := tables_1_3) (i := 153) rfl))))) rfl)⟩
set_option maxRecDepth 100000 in
theorem ml_304 : MPr [15, 93, 1, 89, 3, 1, 8] := ⟨"OneAtATimeLaw", pm_89, ("OneAtATime", kT8, 9), rfl, rfl, rfl, rfl, (gw (List.mem_append_right _ (List.mem_append_right _ (List.mem_append_right _ (List.mem_append_left _ (List.mem_of_getElem? (l := tables_1_3) (i := 151) rfl))))) rfl), mi_89, mf_89, rfl, Nat.le_of_ble_eq_true rfl⟩
set_option maxRecDepth 100000 in
theorem mf_235 : MFr pm_235 2 := ⟨(gw (List.mem_append_right _ (List.mem_append_right _ (List.mem_append_right _ (List.mem_append_right _ (List.mem_append_right _ (List.mem_append_right _ (List.mem_append_left _ (List.mem_of_getElem? (l := tables_1_6) (i := 151) rfl)))))))) rfl), ini_14, by decide +kernel, by decide +kernel⟩
set_option maxRecDepth 100000 in
theorem mi_235 : Jvm.Cond.instanceMethod pm_235.2.1 ∈ gtb ∧ Jvm.Cond.selects pm_235.2.1.cls pm_235.2.1 pm_235.2.1 ∈ gtb := ⟨(gw (List.mem_append_right _ (List.mem_append_right _ (List.mem_append_right _ (List.mem_append_right _ (List.mem_append_right _ (List.mem_append_right _ (List.mem_append_left _ (List.mem_of_getElem? (l := tables_1_6) (i := 149) rfl)))))))) rfl), (gw (List.mem_append_right _ (List.mem_append_right _ (List.mem_append_right _ (List.mem_append_right _ (List.mem_append_right _ (List.mem_append_right _ (List.mem_append_left _ (List.mem_of_getElem? (l := tables_1_6) (i := 150) rfl)))))))) rfl)⟩
set_option maxRecDepth 100000 in
theorem ml_305 : MPr [15, 96, 1, 235, 3, 1, 9] := ⟨"OneAtATimeLaw", pm_235, ("OneAtATimeModel", kT9, 29), rfl, rfl, rfl, rfl, (gw (List.mem_append_right _ (List.mem_append_right _ (List.mem_append_right _ (List.mem_append_right _ (List.mem_append_right _ (List.mem_append_right _ (List.mem_append_left _ (List.mem_of_getElem? (l := tables_1_6) (i := 148) rfl)))))))) rfl), mi_235, mf_235, rfl, Nat.le_of_ble_eq_true rfl⟩
set_option maxRecDepth 100000 in
theorem mf_90 : MFr pm_90 3 := ⟨(gw (List.mem_append_right _ (List.mem_append_right _ (List.mem_append_right _ (List.mem_append_left _ (List.mem_of_getElem? (l := tables_1_3) (i := 159) rfl))))) rfl), ini_0, by decide +kernel, by decide +kernel⟩
set_option maxRecDepth 100000 in
theorem mi_90 : Jvm.Cond.instanceMethod pm_90.2.1 ∈ gtb ∧ Jvm.Cond.selects pm_90.2.1.cls pm_90.2.1 pm_90.2.1 ∈ gtb := ⟨(gw (List.mem_append_right _ (List.mem_append_right _ (List.mem_append_right _ (List.mem_append_left _ (List.mem_of_getElem? (l := tables_1_3) (i := 157) rfl))))) rfl), (gw (List.mem_append_right _ (List.mem_append_right _ (List.mem_append_right _ (List.mem_append_left _ (List.mem_of_getElem? (l := tables_1_3) (i := 158) rfl))))) rfl)⟩
set_option maxRecDepth 100000 in
theorem ml_306 : MPr [15, 97, 1, 90, 4, 1, 8] := ⟨"OneAtATimeLaw", pm_90, ("OneAtATime", kT8, 9), rfl, rfl, rfl, rfl, (gw (List.mem_append_right _ (List.mem_append_right _ (List.mem_append_right _ (List.mem_append_left _ (List.mem_of_getElem? (l := tables_1_3) (i := 156) rfl))))) rfl), mi_90, mf_90, rfl, Nat.le_of_ble_eq_true rfl⟩
set_option maxRecDepth 100000 in
theorem mf_236 : MFr pm_236 3 := ⟨(gw (List.mem_append_right _ (List.mem_append_right _ (List.mem_append_right _ (List.mem_append_right _ (List.mem_append_right _ (List.mem_append_right _ (List.mem_append_left _ (List.mem_of_getElem? (l := tables_1_6) (i := 155) rfl)))))))) rfl), ini_14, by decide +kernel, by decide +kernel⟩
set_option maxRecDepth 100000 in
theorem mi_236 : Jvm.Cond.instanceMethod pm_236.2.1 ∈ gtb ∧ Jvm.Cond.selects pm_236.2.1.cls pm_236.2.1 pm_236.2.1 ∈ gtb := ⟨(gw (List.mem_append_right _ (List.mem_append_right _ (List.mem_append_right _ (List.mem_append_right _ (List.mem_append_right _ (List.mem_append_right _ (List.mem_append_left _ (List.mem_of_getElem? (l := tables_1_6) (i := 153) rfl)))))))) rfl), (gw (List.mem_append_right _ (List.mem_append_right _ (List.mem_append_right _ (List.mem_append_right _ (List.mem_append_right _ (List.mem_append_right _ (List.mem_append_left _ (List.mem_of_getElem? (l := tables_1_6) (i := 154) rfl)))))))) rfl)⟩
set_option maxRecDepth 100000 in
theorem ml_307 : MPr [15, 100, 1, 236, 4, 1, 9] := ⟨"OneAtATimeLaw", pm_236, ("OneAtATimeModel", kT9, 29), rfl, rfl, rfl, rfl, (gw (List.mem_append_right _ (List.mem_append_right _ (List.mem_append_right _ (List.mem_append_right _ (List.mem_append_right _ (List.mem_append_right _ (List.mem_append_left _ (List.mem_of_getElem? (l := tables_1_6) (i := 152) rfl)))))))) rfl), mi_236, mf_236, rfl, Nat.le_of_ble_eq_true rfl⟩
set_option maxRecDepth 100000 in
theorem mf_92 : MFr pm_92 1 := ⟨(gw (List.mem_append_right _ (List.mem_append_right _ (List.mem_append_right _ (List.mem_append_left _ (List.mem_of_getElem? (l := tables_1_3) (i := 168) rfl))))) rfl), ini_0, by decide +kernel, by decide +kernel⟩
set_option maxRecDepth 100000 in
theorem mi_92 : Jvm.Cond.instanceMethod pm_92.2.1 ∈ gtb ∧ Jvm.Cond.selects pm_92.2.1.cls pm_92.2.1 pm_92.2.1 ∈ gtb := ⟨(gw (List.mem_append_right _ (List.mem_append_right _ (List.mem_append_right _ (List.mem_append_left _ (List.mem_of_getElem? (l := tables_1_3) (i := 166) rfl))))) rfl), (gw (List.mem_append_right _ (List.mem_append_right _ (List.mem_append_right _ (List.mem_append_left _ (List.mem_of_getElem? (l := tables_1_3) (i := 167) rfl))))) rfl)⟩
set_option maxRecDepth 100000 in
theorem ml_308 : MPr [15, 101, 1, 92, 2, 1, 8] := ⟨"OneAtATimeLaw", pm_92, ("OneAtATime", kT8, 9), rfl, rfl, rfl, rfl, (gw (List.mem_append_right _ (List.mem_append_right _ (List.mem_append_right _ (List.mem_append_left _ (List.mem_of_getElem? (l := tables_1_3) (i := 165) rfl))))) rfl), mi_92, mf_92, rfl, Nat.le_of_ble_eq_true rfl⟩
set_option maxRecDepth 100000 in
theorem mf_237 : MFr pm_237 1 := ⟨(gw (List.mem_append_right _ (List.mem_append_right _ (List.mem_append_right _ (List.mem_append_right _ (List.mem_append_right _ (List.mem_append_right _ (List.mem_append_left _ (List.mem_of_getElem? (l := tables_1_6) (i := 159) rfl)))))))) rfl), ini_14, by decide +kernel, by decide +kernel⟩
set_option maxRecDepth 100000 in
theorem mi_237 : Jvm.Cond.instanceMethod pm_237.2.1 ∈ gtb ∧ Jvm.Cond.selects pm_237.2.1.cls pm_237.2.1 pm_237.2.1 ∈ gtb := ⟨(gw (List.mem_append_right _ (List.mem_append_right _ (List.mem_append_right _ (List.mem_append_right _ (List.mem_append_right _ (List.mem_append_right _ (List.mem_append_left _ (List.mem_of_getElem? (l := tables_1_6) (i := 157) rfl)))))))) rfl), (gw (List.mem_append_right _ (List.mem_append_right _ (List.mem_append_right _ (List.mem_append_right _ (List.mem_append_right _ (List.mem_append_right _ (List.mem_append_left _ (List.mem_of_getElem? (l := tables_1_6) (i := 158) rfl)))))))) rfl)⟩
set_option maxRecDepth 100000 in
theorem ml_309 : MPr [15, 104, 1, 237, 2, 1, 9] := ⟨"OneAtATimeLaw", pm_237, ("OneAtATimeModel", kT9, 29), rfl, rfl, rfl, rfl, (gw (List.mem_append_right _ (List.mem_append_right _ (List.mem_append_right _ (List.mem_append_right _ (List.mem_append_right _ (List.mem_append_right _ (List.mem_append_left _ (List.mem_of_getElem? (l := tables_1_6) (i := 156) rfl)))))))) rfl), mi_237, mf_237, rfl, Nat.le_of_ble_eq_true rfl⟩
set_option maxRecDepth 100000 in
theorem mf_96 : MFr pm_96 3 := ⟨(gw (List.mem_append_right _ (List.mem_append_right _ (List.mem_append_right _ (List.mem_append_left _ (List.mem_of_getElem? (l := tables_1_3) (i := 184) rfl))))) rfl), ini_0, by decide +kernel, by decide +kernel⟩
set_option maxRecDepth 100000 in
theorem mi_96 : Jvm.Cond.instanceMethod pm_96.2.1 ∈ gtb ∧ Jvm.Cond.selects pm_96.2.1.cls pm_96.2.1 pm_96.2.1 ∈ gtb := ⟨(gw (List.mem_append_right _ (List.mem_append_right _ (List.mem_append_right _ (List.mem_append_left _ (List.mem_of_getElem? (l := tables_1_3) (i := 182) rfl))))) rfl), (gw (List.mem_append_right _ (List.mem_append_right _ (List.mem_append_right _ (List.mem_append_left _ (List.mem_of_getElem? (l := tables_1_3) (i := 183) rfl))))) rfl)⟩
set_option maxRecDepth 100000 in
theorem ml_310 : MPr [15, 105, 1, 96, 4, 1, 8] := ⟨"OneAtATimeLaw", pm_96, ("OneAtATime", kT8, 9), rfl, rfl, rfl, rfl, (gw (List.mem_append_right _ (List.mem_append_right _ (List.mem_append_right _ (List.mem_append_left _ (List.mem_of_getElem? (l := tables_1_3) (i := 181) rfl))))) rfl), mi_96, mf_96, rfl, Nat.le_of_ble_eq_true rfl⟩
set_option maxRecDepth 100000 in
theorem mf_234 : MFr pm_234 3 := ⟨(gw (List.mem_append_right _ (List.mem_append_right _ (List.mem_append_right _ (List.mem_append_right _ (List.mem_append_right _ (List.mem_append_right _ (List.mem_append_left _ (List.mem_of_getElem? (l := tables_1_6) (i := 147) rfl)))))))) rfl), ini_14, by decide +kernel, by decide +kernel⟩
set_option maxRecDepth 100000 in
theorem mi_234 : Jvm.Cond.instanceMethod pm_234.2.1 ∈ gtb ∧ Jvm.Cond.selects pm_234.2.1.cls pm_234.2.1 pm_234.2.1 ∈ gtb := ⟨(gw (List.mem_append_right _ (List.mem_append_right _ (List.mem_append_right _ (List.mem_append_right _ (List.mem_append_right _ (List.mem_append_right _ (List.mem_append_left _ (List.mem_of_getElem? (l := tables_1_6) (i := 145) rfl)))))))) rfl), (gw (List.mem_append_right _ (List.mem_append_right _ (List.mem_append_right _ (List.mem_append_right _ (List.mem_append_right _ (List.mem_append_right _ (List.mem_append_left _ (List.mem_of_getElem? (l := tables_1_6) (i := 146) rfl)))))))) rfl)⟩
set_option maxRecDepth 100000 in
theorem ml_311 : MPr [15, 108, 1, 234, 4, 1, 9] := ⟨"OneAtATimeLaw", pm_234, ("OneAtATimeModel", kT9, 29), rfl, rfl, rfl, rfl, (gw (List.mem_append_right _ (List.mem_append_right _ (List.mem_append_right _ (List.mem_append_right _ (List.mem_append_right _ (List.mem_append_right _ (List.mem_append_left _ (List.mem_of_getElem? (l := tables_1_6) (i := 144) rfl)))))))) rfl), mi_234, mf_234, rfl, Nat.le_of_ble_eq_true rfl⟩
set_option maxRecDepth 100000 in
theorem mf_98 : MFr pm_98 1 := ⟨(gw (List.mem_append_right _ (List.mem_append_right _ (List.mem_append_right _ (List.mem_append_left _ (List.mem_of_getElem? (l := tables_1_3) (i := 191) rfl))))) rfl), ini_0, by decide +kernel, by decide +kernel⟩
set_option maxRecDepth 100000 in
theorem mi_98 : Jvm.Cond.instanceMethod pm_98.2.1 ∈ gtb ∧ Jvm.Cond.selects pm_98.2.1.cls pm_98.2.1 pm_98.2.1 ∈ gtb := ⟨(gw (List.mem_append_right _ (List.mem_append_right _ (List.mem_append_right _ (List.mem_append_left _ (List.mem_of_getElem? (l := tables_1_3) (i := 189) rfl))))) rfl), (gw (List.mem_append_right _ (List.mem_append_right _ (List.mem_append_right _ (List.mem_append_left _ (List.mem_of_getElem? (l := tables_1_3) (i := 190) rfl))))) rfl)⟩
set_option maxRecDepth 100000 in
theorem ml_312 : MPr [15, 109, 1, 98, 2, 1, 8] := ⟨"OneAtATimeLaw", pm_98, ("OneAtATime", kT8, 9), rfl, rfl, rfl, rfl, (gw (List.mem_append_right _ (List.mem_append_right _ (List.mem_append_right _ (List.mem_append_left _ (List.mem_of_getElem? (l := tables_1_3) (i := 188) rfl))))) rfl), mi_98, mf_98, rfl, Nat.le_of_ble_eq_true rfl⟩
set_option maxRecDepth 100000 in
theorem mf_240 : MFr pm_240 1 := ⟨(gw (List.mem_append_right _ (List.mem_append_right _ (List.mem_append_right _ (List.mem_append_right _ (List.mem_append_right _ (List.mem_append_right _ (List.mem_append_left _ (List.mem_of_getElem? (l := tables_1_6) (i := 171) rfl)))))))) rfl), ini_14, by decide +kernel, by decide +kernel⟩
set_option maxRecDepth 100000 in
theorem mi_240 : Jvm.Cond.instanceMethod pm_240.2.1 ∈ gtb ∧ Jvm.Cond.selects pm_240.2.1.cls pm_240.2.1 pm_240.2.1 ∈ gtb := ⟨(gw (List.mem_append_right _ (List.mem_append_right _ (List.mem_append_right _ (List.mem_append_right _ (List.mem_append_right _ (List.mem_append_right _ (List.mem_append_left _ (List.mem_of_getElem? (l := tables_1_6) (i := 169) rfl)))))))) rfl), (gw (List.mem_append_right _ (List.mem_append_right _ (List.mem_append_right _ (List.mem_append_right _ (List.mem_append_right _ (List.mem_append_right _ (List.mem_append_left _ (List.mem_of_getElem? (l := tables_1_6) (i := 170) rfl)))))))) rfl)⟩
set_option maxRecDepth 100000 in
theorem ml_313 : MPr [15, 112, 1, 240, 2, 1, 9] := ⟨"OneAtATimeLaw", pm_240, ("OneAtATimeModel", kT9, 29), rfl, rfl, rfl, rfl, (gw (List.mem_append_right _ (List.mem_append_right _ (List.mem_append_right _ (List.mem_append_right _ (List.mem_append_right _ (List.mem_append_right _ (List.mem_append_left _ (List.mem_of_getElem? (l := tables_1_6) (i := 168) rfl)))))))) rfl), mi_240, mf_240, rfl, Nat.le_of_ble_eq_true rfl⟩
set_option maxRecDepth 100000 in
theorem mf_99 : MFr pm_99 1 := ⟨(gw (List.mem_append_right _ (List.mem_append_right _ (List.mem_append_right _ (List.mem_append_left _ (List.mem_of_getElem? (l := tables_1_3) (i := 195) rfl))))) rfl), ini_0, by decide +kernel, by decide +kernel⟩
set_option maxRecDepth 100000 in
theorem mi_99 : Jvm.Cond.instanceMethod pm_99.2.1 ∈ gtb ∧ Jvm.Cond.selects pm_99.2.1.cls pm_99.2.1 pm_99.2.1 ∈ gtb := ⟨(gw (List.mem_append_right _ (List.mem_append_right _ (List.mem_append_right _ (List.mem_append_left _ (List.mem_of_getElem? (l := tables_1_3) (i := 193) rfl))))) rfl), (gw (List.mem_append_right _ (List.mem_append_right _ (List.mem_append_right _ (List.mem_append_left _ (List.mem_of_getElem? (l := tables_1_3) (i := 194) rfl))))) rfl)⟩
set_option maxRecDepth 100000 in
theorem ml_314 : MPr [15, 113, 1, 99, 2, 1, 8] := ⟨"OneAtATimeLaw", pm_99, ("OneAtATime", kT8, 9), rfl, rfl, rfl, rfl, (gw (List.mem_append_right _ (List.mem_append_right _ (List.mem_append_right _ (List.mem_append_left _ (List.mem_of_getElem? (l := tables_1_3) (i := 192) rfl))))) rfl), mi_99, mf_99, rfl, Nat.le_of_ble_eq_true rfl⟩
set_option maxRecDepth 100000 in
theorem mf_241 : MFr pm_241 1 := ⟨(gw (List.mem_append_right _ (List.mem_append_right _ (List.mem_append_right _ (List.mem_append_right _ (List.mem_append_right _ (List.mem_append_right _ (List.mem_append_left _ (List.mem_of_getElem? (l := tables_1_6) (i := 175) rfl)))))))) rfl), ini_14, by decide +kernel, by decide +kernel⟩
set_option maxRecDepth 100000 in
theorem mi_241 : Jvm.Cond.instanceMethod pm_241.2.1 ∈ gtb ∧ Jvm.Cond.selects pm_241.2.1.cls pm_241.2.1 pm_241.2.1 ∈ gtb := ⟨(gw (List.mem_append_right _ (List.mem_append_right _ (List.mem_append_right _ (List.mem_append_right _ (List.mem_append_right _ (List.mem_append_right _ (List.mem_append_left _ (List.mem_of_getElem? (l := tables_1_6) (i := 173) rfl)))))))) rfl), (gw (List.mem_append_right _ (List.mem_append_right _ (List.mem_append_right _ (List.mem_append_right _ (List.mem_append_right _ (List.mem_append_right _ (List.mem_append_left _ (List.mem_of_getElem? (l := tables_1_6) (i := 174) rfl)))))))) rfl)⟩
set_option maxRecDepth 100000 in
theorem ml_315 : MPr [15, 116, 1, 241, 2, 1, 9] := ⟨"OneAtATimeLaw", pm_241, ("OneAtATimeModel", kT9, 29), rfl, rfl, rfl, rfl, (gw (List.mem_append_right _ (List.mem_append_right _ (List.mem_append_right _ (List.mem_append_right _ (List.mem_append_right _ (List.mem_append_right _ (List.mem_append_left _ (List.mem_of_getElem? (l := tables_1_6) (i := 172) rfl)))))))) rfl), mi_241, mf_241, rfl, Nat.le_of_ble_eq_true rfl⟩
set_option maxRecDepth 100000 in
theorem mf_100 : MFr pm_100 1 := ⟨(gw (List.mem_append_right _ (List.mem_append_right _ (List.mem_append_right _ (List.mem_append_left _ (List.mem_of_getElem? (l := tables_1_3) (i := 199) rfl))))) rfl), ini_0, by decide +kernel, by decide +kernel⟩
set_option maxRecDepth 100000 in
theorem mi_100 : Jvm.Cond.instanceMethod pm_100.2.1 ∈ gtb ∧ Jvm.Cond.selects pm_100.2.1.cls pm_100.2.1 pm_100.2.1 ∈ gtb := ⟨(gw (List.mem_append_right _ (List.mem_append_right _ (List.mem_append_right _ (List.mem_append_left _ (List.mem_of_getElem? (l := tables_1_3) (i := 197) rfl))))) rfl), (gw (List.mem_append_right _ (List.mem_append_right _ (List.mem_append_right _ (List.mem_append_left _ (List.mem_of_getElem? (l := tables_1_3) (i := 198) rfl))))) rfl)⟩
set_option maxRecDepth 100000 in
theorem ml_316 : MPr [15, 117, 1, 100, 2, 1, 8] := ⟨"OneAtATimeLaw", pm_100, ("OneAtATime", kT8, 9), rfl, rfl, rfl, rfl, (gw (List.mem_append_right _ (List.mem_append_right _ (List.mem_append_right _ (List.mem_append_left _ (List.mem_of_getElem? (l := tables_1_3) (i := 196) rfl))))) rfl), mi_100, mf_100, rfl, Nat.le_of_ble_eq_true rfl⟩
set_option maxRecDepth 100000 in
theorem mf_242 : MFr pm_242 1 := ⟨(gw (List.mem_append_right _ (List.mem_append_right _ (List.mem_append_right _ (List.mem_append_right _ (List.mem_append_right _ (List.mem_append_right _ (List.mem_append_left _ (List.mem_of_getElem? (l := tables_1_6) (i := 179) rfl)))))))) rfl), ini_14, by decide +kernel, by decide +kernel⟩
set_option maxRecDepth 100000 in
theorem mi_242 : Jvm.Cond.instanceMethod pm_242.2.1 ∈ gtb ∧ Jvm.Cond.selects pm_242.2.1.cls pm_242.2.1 pm_242.2.1 ∈ gtb := ⟨(gw (List.mem_append_right _ (List.mem_append_right _ (List.mem_append_right _ (List.mem_append_right _ (List.mem_append_right _ (List.mem_append_right _ (List.mem_append_left _ (List.mem_of_getElem? (l := tables_1_6) (i := 177) rfl)))))))) rfl), (gw (List.mem_append_right _ (List.mem_append_right _ (List.mem_append_right _ (List.mem_append_right _ (List.mem_append_right _ (List.mem_append_right _ (List.mem_append_left _ (List.mem_of_getElem? (l := tables_1_6) (i := 178) rfl)))))))) rfl)⟩
set_option maxRecDepth 100000 in
theorem ml_317 : MPr [15, 120, 1, 242, 2, 1, 9] := ⟨"OneAtATimeLaw", pm_242, ("OneAtATimeModel", kT9, 29), rfl, rfl, rfl, rfl, (gw (List.mem_append_right _ (List.mem_append_right _ (List.mem_append_right _ (List.mem_append_right _ (List.mem_append_right _ (List.mem_append_right _ (List.mem_append_left _ (List.mem_of_getElem? (l := tables_1_6) (i := 176) rfl)))))))) rfl), mi_242, mf_242, rfl, Nat.le_of_ble_eq_true rfl⟩
set_option maxRecDepth 100000 in
theorem mf_102 : MFr pm_102 2 := ⟨(gw (List.mem_append_right _ (List.mem_append_right _ (List.mem_append_right _ (List.mem_append_left _ (List.mem_of_getElem? (l := tables_1_3) (i := 207) rfl))))) rfl), ini_0, by decide +kernel, by decide +kernel⟩
set_option maxRecDepth 100000 in
theorem mi_102 : Jvm.Cond.instanceMethod pm_102.2.1 ∈ gtb ∧ Jvm.Cond.selects pm_102.2.1.cls pm_102.2.1 pm_102.2.1 ∈ gtb := ⟨(gw (List.mem_append_right _ (List.mem_append_right _ (List.mem_append_right _ (List.mem_append_left _ (List.mem_of_getElem? (l := tables_1_3) (i := 205) rfl))))) rfl), (gw (List.mem_append_right _ (List.mem_append_right _ (List.mem_append_right _ (List.mem_append_left _ (List.mem_of_getElem? (l := tables_1_3) (i := 206) rfl))))) rfl)⟩
set_option maxRecDepth 100000 in
theorem ml_318 : MPr [15, 121, 1, 102, 3, 1, 8] := ⟨"OneAtATimeLaw", pm_102, ("OneAtATime", kT8, 9), rfl, rfl, rfl, rfl, (gw (List.mem_append_right _ (List.mem_append_right _ (List.mem_append_right _ (List.mem_append_left _ (List.mem_of_getElem? (l := tables_1_3) (i := 204) rfl))))) rfl), mi_102, mf_102, rfl, Nat.le_of_ble_eq_true rfl⟩
set_option maxRecDepth 100000 in
theorem mf_244 : MFr pm_244 2 := ⟨(gw (List.mem_append_right _ (List.mem_append_right _ (List.mem_append_right _ (List.mem_append_right _ (List.mem_append_right _ (List.mem_append_right _ (List.mem_append_left _ (List.mem_of_getElem? (l := tables_1_6) (i := 186) rfl)))))))) rfl), ini_14, by decide +kernel, by decide +kernel⟩
set_option maxRecDepth 100000 in
theorem mi_244 : Jvm.Cond.instanceMethod pm_244.2.1 ∈ gtb ∧ Jvm.Cond.selects pm_244.2.1.cls pm_244.2.1 pm_244.2.1 ∈ gtb := ⟨(gw (List.mem_append_right _ (List.mem_append_right _ (List.mem_append_right _ (List.mem_append_right _ (List.mem_append_right _ (List.mem_append_right _ (List.mem_append_left _ (List.mem_of_getElem? (l := tables_1_6) (i := 184) rfl)))))))) rfl), (gw (List.mem_append_right _ (List.mem_append_right _ (List.mem_append_right _ (List.mem_append_right _ (List.mem_append_right _ (List.mem_append_right _ (List.mem_append_left _ (List.mem_of_getElem? (l := tables_1_6) (i := 185) rfl)))))))) rfl)⟩
set_option maxRecDepth 100000 in
theorem ml_319 : MPr [15, 124, 1, 244, 3, 1, 9] := ⟨"OneAtATimeLaw", pm_244, ("OneAtATimeModel", kT9, 29), rfl, rfl, rfl, rfl, (gw (List.mem_append_right _ (List.mem_append_right _ (List.mem_append_right _ (List.mem_append_right _ (List.mem_append_right _ (List.mem_append_right _ (List.mem_append_left _ (List.mem_of_getElem? (l := tables_1_6) (i := 183) rfl)))))))) rfl), mi_244, mf_244, rfl, Nat.le_of_ble_eq_true rfl⟩
set_option maxRecDepth 100000 in
theorem mf_108 : MFr pm_108 3 := ⟨(gw (List.mem_append_right _ (List.mem_append_right _ (List.mem_append_right _ (List.mem_append_left _ (List.mem_of_getElem? (l := tables_1_3) (i := 235) rfl))))) rfl), ini_0, by decide +kernel, by decide +kernel⟩
set_option maxRecDepth 100000 in
theorem mi_108 : Jvm.Cond.instanceMethod pm_108.2.1 ∈ gtb ∧ Jvm.Cond.selects pm_108.2.1.cls pm_108.2.1 pm_108.2.1 ∈ gtb := ⟨(gw (List.mem_append_right _ (List.mem_append_right _ (List.mem_append_right _ (List.mem_append_left _ (List.mem_of_getElem? (l := tables_1_3) (i := 233) rfl))))) rfl), (gw (List.mem_append_right _ (List.mem_append_right _ (List.mem_append_right _ (List.mem_append_left _ (List.mem_of_getElem? (l := tables_1_3) (i := 234) rfl))))) rfl)⟩
set_option maxRecDepth 100000 in
theorem ml_320 : MPr [15, 125, 1, 108, 4, 1, 8] := ⟨"OneAtATimeLaw", pm_108, ("OneAtATime", kT8, 9), rfl, rfl, rfl, rfl, (gw (List.mem_append_right _ (List.mem_append_right _ (List.mem_append_right _ (List.mem_append_left _ (List.mem_of_getElem? (l := tables_1_3) (i := 232) rfl))))) rfl), mi_108, mf_108, rfl, Nat.le_of_ble_eq_true rfl⟩
set_option maxRecDepth 100000 in
theorem mf_246 : MFr pm_246 3 := ⟨(gw (List.mem_append_right _ (List.mem_append_right _ (List.mem_append_right _ (List.mem_append_right _ (List.mem_append_right _ (List.mem_append_right _ (List.mem_append_left _ (List.mem_of_getElem? (l := tables_1_6) (i := 194) rfl)))))))) rfl), ini_14, by decide +kernel, by decide +kernel⟩
set_option maxRecDepth 100000 in
theorem mi_246 : Jvm.Cond.instanceMethod pm_246.2.1 ∈ gtb ∧ Jvm.Cond.selects pm_246.2.1.cls pm_246.2.1 pm_246.2.1 ∈ gtb := ⟨(gw (List.mem_append_right _ (List.mem_append_right _ (List.mem_append_right _ (List.mem_append_right _ (List.mem_append_right _ (List.mem_append_right _ (List.mem_append_left _ (List.mem_of_getElem? (l := tables_1_6) (i := 192) rfl)))))))) rfl), (gw (List.mem_append_right _ (List.mem_append_right _ (List.mem_append_right _ (List.mem_append_right _ (List.mem_append_right _ (List.mem_append_right _ (List.mem_append_left _ (List.mem_of_getElem? (l := tables_1_6) (i := 193) rfl)))))))) rfl)⟩
set_option maxRecDepth 100000 in
theorem ml_321 : MPr [15, 128, 1, 246, 4, 1, 9] := ⟨"OneAtATimeLaw", pm_246, ("OneAtATimeModel", kT9, 29), rfl, rfl, rfl, rfl, (gw (List.mem_append_right _ (List.mem_append_right _ (List.mem_append_right _ (List.mem_append_right _ (List.mem_append_right _ (List.mem_append_right _ (List.mem_append_left _ (List.mem_of_getElem? (l := tables_1_6) (i := 191) rfl)))))))) rfl), mi_246, mf_246, rfl, Nat.le_of_ble_eq_true rfl⟩
set_option maxRecDepth 100000 in
theorem mf_117 : MFr pm_117 2 := ⟨(gw (List.mem_append_right _ (List.mem_append_right _ (List.mem_append_right _ (List.mem_append_right _ (List.mem_append_left _ (List.mem_of_getElem? (l := tables_1_4) (i := 43) rfl)))))) rfl), ini_0, by decide +kernel, by decide +kernel⟩
set_option maxRecDepth 100000 in
theorem mi_117 : Jvm.Cond.instanceMethod pm_117.2.1 ∈ gtb ∧ Jvm.Cond.selects pm_117.2.1.cls pm_117.2.1 pm_117.2.1 ∈ gtb := ⟨(gw (List.mem_append_right _ (List.mem_append_right _ (List.mem_append_right _ (List.mem_append_right _ (List.mem_append_left _ (List.mem_of_getElem? (l := tables_1_4) (i := 41) rfl)))))) rfl), (gw (List.mem_append_right _ (List.mem_append_right _ (List.mem_append_right _ (List.mem_append_right _ (List.mem_append_left _ (List.mem_of_getElem? (l := tables_1_4) (i := 42) rfl)))))) rfl)⟩
set_option maxRecDepth 100000 in
theorem ml_322 : MPr [15, 131, 1, 117, 3, 1, 8] := ⟨"OneAtATimeLaw", pm_117, ("OneAtATime", kT8, 9), rfl, rfl, rfl, rfl, (gw (List.mem_append_right _ (List.mem_append_right _ (List.mem_append_right _ (List.mem_append_right _ (List.mem_append_left _ (List.mem_of_getElem? (l := tables_1_4) (i := 40) rfl)))))) rfl), mi_117, mf_117, rfl, Nat.le_of_ble_eq_true rfl⟩
set_option maxRecDepth 100000 in
theorem mf_250 : MFr pm_250 2 := ⟨(gw (List.mem_append_right _ (List.mem_append_right _ (List.mem_append_right _ (List.mem_append_right _ (List.mem_append_right _ (List.mem_append_right _ (List.mem_append_left _ (List.mem_of_getElem? (l := tables_1_6) (i := 212) rfl)))))))) rfl), ini_14, by decide +kernel, by decide +kernel⟩
set_option maxRecDepth 100000 in
theorem mi_250 : Jvm.Cond.instanceMethod pm_250.2.1 ∈ gtb ∧ Jvm.Cond.selects pm_250.2.1.cls pm_250.2.1 pm_250.2.1 ∈ gtb := ⟨(gw (List.mem_append_right _ (List.mem_append_right _ (List.mem_append_right _ (List.mem_append_right _ (List.mem_append_right _ (List.mem_append_right _ (List.mem_append_left _ (List.mem_of_getElem? (l := tables_1_6) (i := 210) rfl)))))))) rfl), (gw (List.mem_append_right _ (List.mem_append_right _ (List.mem_append_right _ (List.mem_append_right _ (List.mem_append_right _ (List.mem_append_right _ (List.mem_append_left _ (List.mem_of_getElem? (l := tables_1_6) (i := 211) rfl)))))))) rfl)⟩
set_option maxRecDepth 100000 in
theorem ml_323 : MPr [15, 135, 1, 250, 3, 1, 9] := ⟨"OneAtATimeLaw", pm_250, ("OneAtATimeModel", kT9, 29), rfl, rfl, rfl, rfl, (gw (List.mem_append_right _ (List.mem_append_right _ (List.mem_append_right _ (List.mem_append_right _ (List.mem_append_right _ (List.mem_append_right _ (List.mem_append_left _ (List.mem_of_getElem? (l := tables_1_6) (i := 209) rfl)))))))) rfl), mi_250, mf_250, rfl, Nat.le_of_ble_eq_true rfl⟩
set_option maxRecDepth 100000 in
theorem mf_124 : MFr pm_124 1 := ⟨(gw (List.mem_append_right _ (List.mem_append_right _ (List.mem_append_right _ (List.mem_append_right _ (List.mem_append_left _ (List.mem_of_getElem? (l := tables_1_4) (i := 72) rfl)))))) rfl), ini_0, by decide +kernel, by decide +kernel⟩
set_option maxRecDepth 100000 in
theorem mi_124 : Jvm.Cond.instanceMethod pm_124.2.1 ∈ gtb ∧ Jvm.Cond.selects pm_124.2.1.cls pm_124.2.1 pm_124.2.1 ∈ gtb := ⟨(gw (List.mem_append_right _ (List.mem_append_right _ (List.mem_append_right _ (List.mem_append_right _ (List.mem_append_left _ (List.mem_of_getElem? (l := tables_1_4) (i := 70) rfl)))))) rfl), (gw (List.mem_append_right _ (List.mem_append_right _ (List.mem_append_right _ (List.mem_append_right _ (List.mem_append_left _ (List.mem_of_getElem? (l := tables_1_4) (i := 71) rfl)))))) rfl)⟩
set_option maxRecDepth 100000 in
theorem ml_324 : MPr [15, 136, 1, 124, 2, 1, 8] := ⟨"OneAtATimeLaw", pm_124, ("OneAtATime", kT8, 9), rfl, rfl, rfl, rfl, (gw (List.mem_append_right _ (List.mem_append_right _ (List.mem_append_right _ (List.mem_append_right _ (List.mem_append_left _ (List.mem_of_getElem? (l := tables_1_4) (i := 69) rfl)))))) rfl), mi_124, mf_124, rfl, Nat.le_of_ble_eq_true rfl⟩
set_option maxRecDepth 100000 in
theorem mf_258 : MFr pm_258 1 := ⟨(gw (List.mem_append_right _ (List.mem_append_right _ (List.mem_append_right _ (List.mem_append_right _ (List.mem_append_right _ (List.mem_append_right _ (List.mem_append_right _ (List.mem_of_getElem? (l := tables_1_7) (i := 6) rfl)))))))) rfl), ini_14, by decide +kernel, by decide +kernel⟩
set_option maxRecDepth 100000 in
theorem mi_258 : Jvm.Cond.instanceMethod pm_258.2.1 ∈ gtb ∧ Jvm.Cond.selects pm_258.2.1.cls pm_258.2.1 pm_258.2.1 ∈ gtb := ⟨(gw (List.mem_append_right _ (List.mem_append_right _ (List.mem_append_right _ (List.mem_append_right _ (List.mem_append_right _ (List.mem_append_right _ (List.mem_append_right _ (List.mem_of_getElem? (l := tables_1_7) (i := 4) rfl)))))))) rfl), (gw (List.mem_append_right _ (List.mem_append_right _ (List.mem_append_right _ (List.mem_append_right _ (List.mem_append_right _ (List.mem_append_right _ (List.mem_append_right _ (List.mem_of_getElem? (l := tables_1_7) (i := 5) rfl)))))))) rfl)⟩
set_option maxRecDepth 100000 in
theorem ml_325 : MPr [15, 139, 1, 258, 2, 1, 9] := ⟨"OneAtATimeLaw", pm_258, ("OneAtATimeModel", kT9, 29), rfl, rfl, rfl, rfl, (gw (List.mem_append_right _ (List.mem_append_right _ (List.mem_append_right _ (List.mem_append_right _ (List.mem_append_right _ (List.mem_append_right _ (List.mem_append_right _ (List.mem_of_getElem? (l := tables_1_7) (i := 3) rfl)))))))) rfl), mi_258, mf_258, rfl, Nat.le_of_ble_eq_true rfl⟩
set_option maxRecDepth 100000 in
theorem mf_126 : MFr pm_126 3 := ⟨(gw (List.mem_append_right _ (List.mem_append_right _ (List.mem_append_right _ (List.mem_append_right _ (List.mem_append_left _ (List.mem_of_getElem? (l := tables_1_4) (i := 81) rfl)))))) rfl), ini_0, by decide +kernel, by decide +kernel⟩
set_option maxRecDepth 100000 in
theorem mi_126 : Jvm.Cond.instanceMethod pm_126.2.1 ∈ gtb ∧ Jvm.Cond.selects pm_126.2.1.cls pm_126.2.1 pm_126.2.1 ∈ gtb := ⟨(gw (List.mem_append_right _ (List.mem_append_right _ (List.mem_append_right _ (List.mem_append_right _ (List.mem_append_left _ (List.mem_of_getElem? (l := tables_1_4) (i := 79) rfl)))))) rfl), (gw (List.mem_append_right _ (List.mem_append_right _ (List.mem_append_right _ (List.mem_append_right _ (List.mem_append_left _ (List.mem_of_getElem? (l := tables_1_4) (i := 80) rfl)))))) rfl)⟩
set_option maxRecDepth 100000 in
theorem ml_326 : MPr [15, 140, 1, 126, 4, 1, 8] := ⟨"OneAtATimeLaw", pm_126, ("OneAtATime", kT8, 9), rfl, rfl, rfl, rfl, (gw (List.mem_append_right _ (List.mem_append_right _ (List.mem_append_right _ (List.mem_append_right _ (List.mem_append_left _ (List.mem_of_getElem? (l := tables_1_4) (i := 78) rfl)))))) rfl), mi_126, mf_126, rfl, Nat.le_of_ble_eq_true rfl⟩
set_option maxRecDepth 100000 in
theorem mf_259 : MFr pm_259 3 := ⟨(gw (List.mem_append_right _ (List.mem_append_right _ (List.mem_append_right _ (List.mem_append_right _ (List.mem_append_right _ (List.mem_append_right _ (List.mem_append_right _ (List.mem_of_getElem? (l := tables_1_7) (i := 10) rfl)))))))) rfl), ini_14, by decide +kernel, by decide +kernel⟩
set_option maxRecDepth 100000 in
theorem mi_259 : Jvm.Cond.instanceMethod pm_259.2.1 ∈ gtb ∧ Jvm.Cond.selects pm_259.2.1.cls pm_259.2.1 pm_259.2.1 ∈ gtb := ⟨(gw (List.mem_append_right _ (List.mem_append_right _ (List.mem_append_right _ (List.mem_append_right _ (List.mem_append_right _ (List.mem_append_right _ (List.mem_append_right _ (List.mem_of_getElem? (l := tables_1_7) (i := 8) rfl)))))))) rfl), (gw (List.mem_append_right _ (List.mem_append_right _ (List.mem_append_right _ (List.mem_append_right _ (List.mem_append_right _ (List.mem_append_right _ (List.mem_append_right _ (List.mem_of_getElem? (l := tables_1_7) (i := 9) rfl)))))))) rfl)⟩
set_option maxRecDepth 100000 in
theorem ml_327 : MPr [15, 143, 1, 259, 4, 1, 9] := ⟨"OneAtATimeLaw", pm_259, ("OneAtATimeModel", kT9, 29), rfl, rfl, rfl, rfl, (gw (List.mem_append_right _ (List.mem_append_right _ (List.mem_append_right _ (List.mem_append_right _ (List.mem_append_right _ (List.mem_append_right _ (List.mem_append_right _ (List.mem_of_getElem? (l := tables_1_7) (i := 7) rfl)))))))) rfl), mi_259, mf_259, rfl, Nat.le_of_ble_eq_true rfl⟩
set_option maxRecDepth 100000 in
theorem mf_128 : MFr pm_128 2 := ⟨(gw (List.mem_append_right _ (List.mem_append_right _ (List.mem_append_right _ (List.mem_append_right _ (List.mem_append_left _ (List.mem_of_getElem? (l := tables_1_4) (i := 89) rfl)))))) rfl), ini_0, by decide +kernel, by decide +kernel⟩
set_option maxRecDepth 100000 in
theorem mi_128 : Jvm.Cond.instanceMethod pm_128.2.1 ∈ gtb ∧ Jvm.Cond.selects pm_128.2.1.cls pm_128.2.1 pm_128.2.1 ∈ gtb := ⟨(gw (List.mem_append_right _ (List.mem_append_right _ (List.mem_append_right _ (List.mem_append_right _ (List.mem_append_left _ (List.mem_of_getElem? (l := tables_1_4) (i := 87) rfl)))))) rfl), (gw (List.mem_append_right _ (List.mem_append_right _ (List.mem_append_right _ (List.mem_append_right _ (List.mem_append_left _ (List.mem_of_getElem? (l := tables_1_4) (i := 88) rfl)))))) rfl)⟩
set_option maxRecDepth 100000 in
theorem ml_328 : MPr [15, 144, 1, 128, 3, 3, 8] := ⟨"OneAtATimeLaw", pm_128, ("OneAtATime", kT8, 9), rfl, rfl, rfl, rfl, (gw (List.mem_append_right _ (List.mem_append_right _ (List.mem_append_right _ (List.mem_append_right _ (List.mem_append_left _ (List.mem_of_getElem? (l := tables_1_4) (i := 86) rfl)))))) rfl), mi_128, mf_128, rfl, Nat.le_of_ble_eq_true rfl⟩
set_option maxRecDepth 100000 in
theorem mf_256 : MFr pm_256 2 := ⟨(gw (List.mem_append_right _ (List.mem_append_right _ (List.mem_append_right _ (List.mem_append_right _ (List.mem_append_right _ (List.mem_append_right _ (List.mem_append_left _ (List.mem_of_getElem? (l := tables_1_6) (i := 235) rfl)))))))) rfl), ini_14, by decide +kernel, by decide +kernel⟩
set_option maxRecDepth 100000 in
theorem mi_256 : Jvm.Cond.instanceMethod pm_256.2.1 ∈ gtb ∧ Jvm.Cond.selects pm_256.2.1.cls pm_256.2.1 pm_256.2.1 ∈ gtb := ⟨(gw (List.mem_append_right _ (List.mem_append_right _ (List.mem_append_right _ (List.mem_append_right _ (List.mem_append_right _ (List.mem_append_right _ (List.mem_append_left _ (List.mem_of_getElem? (l := tables_1_6) (i := 233) rfl)))))))) rfl), (gw (List.mem_append_right _ (List.mem_append_right _ (List.mem_append_right _ (List.mem_append_right _ (List.mem_append_right _ (List.mem_append_right _ (List.mem_append_left _ (List.mem_of_getElem? (l := tables_1_6) (i := 234) rfl)))))))) rfl)⟩
set_option maxRecDepth 100000 in
theorem ml_329 : MPr [15, 148, 1, 256, 3, 3, 9] := ⟨"OneAtATimeLaw", pm_256, ("OneAtATimeModel", kT9, 29), rfl, rfl, rfl, rfl, (gw (List.mem_append_right _ (List.mem_append_right _ (List.mem_append_right _ (List.mem_append_right _ (List.mem_append_right _ (List.mem_append_right _ (List.mem_append_left _ (List.mem_of_getElem? (l := tables_1_6) (i := 232) rfl)))))))) rfl), mi_256, mf_256, rfl, Nat.le_of_ble_eq_true rfl⟩
set_option maxRecDepth 100000 in
theorem mf_135 : MFr pm_135 4 := ⟨(gw (List.mem_append_right _ (List.mem_append_right _ (List.mem_append_right _ (List.mem_append_right _ (List.mem_append_left _ (List.mem_of_getElem? (l := tables_1_4) (i := 124) rfl)))))) rfl), ini_0, by decide +kernel, by decide +kernel⟩
set_option maxRecDepth 100000 in
theorem mi_135 : Jvm.Cond.instanceMethod pm_135.2.1 ∈ gtb ∧ Jvm.Cond.selects pm_135.2.1.cls pm_135.2.1 pm_135.2.1 ∈ gtb := ⟨(gw (List.mem_append_right _ (List.mem_append_right _ (List.mem_append_right _ (List.mem_append_right _ (List.mem_append_left _ (List.mem_of_getElem? (l := tables_1_4) (i := 122) rfl)))))) rfl), (gw (List.mem_append_right _ (List.mem_append_right _ (List.mem_append_right _ (List.mem_append_right _ (List.mem_append_left _ (List.mem_of_getElem? (l := tables_1_4) (i := 123) rfl)))))) rfl)⟩
set_option maxRecDepth 100000 in
theorem ml_330 : MPr [15, 149, 1, 135, 5, 1, 8] := ⟨"OneAtATimeLaw", pm_135, ("OneAtATime", kT8, 9), rfl, rfl, rfl, rfl, (gw (List.mem_append_right _ (List.mem_append_right _ (List.mem_append_right _ (List.mem_append_right _ (List.mem_append_left _ (List.mem_of_getElem? (l := tables_1_4) (i := 121) rfl)))))) rfl), mi_135, mf_135, rfl, Nat.le_of_ble_eq_true rfl⟩
set_option maxRecDepth 100000 in
theorem mf_260 : MFr pm_260 4 := ⟨(gw (List.mem_append_right _ (List.mem_append_right _ (List.mem_append_right _ (List.mem_append_right _ (List.mem_append_right _ (List.mem_append_right _ (List.mem_append_right _ (List.mem_of_getElem? (l := tables_1_7) (i := 14) rfl)))))))) rfl), ini_14, by decide +kernel, by decide +kernel⟩
set_option maxRecDepth 100000 in
theorem mi_260 : Jvm.Cond.instanceMethod pm_260.2.1 ∈ gtb ∧ Jvm.Cond.selects pm_260.2.1.cls pm_260.2.1 pm_260.2.1 ∈ gtb := ⟨(gw (List.mem_append_right _ (List.mem_append_right _ (List.mem_append_right _ (List.mem_append_right _ (List.mem_append_right _ (List.mem_append_right _ (List.mem_append_right _ (List.mem_of_getElem? (l := tables_1_7) (i := 12) rfl)))))))) rfl), (gw (List.mem_append_right _ (List.mem_append_right _ (List.mem_append_right _ (List.mem_append_right _ (List.mem_append_right _ (List.mem_append_right _ (List.mem_append_right _ (List.mem_of_getElem? (l := tables_1_7) (i := 13) rfl)))))))) rfl)⟩
set_option maxRecDepth 100000 in
theorem ml_331 : MPr [15, 153, 1, 260, 5, 1, 9] := ⟨"OneAtATimeLaw", pm_260, ("OneAtATimeModel", kT9, 29), rfl, rfl, rfl, rfl, (gw (List.mem_append_right _ (List.mem_append_right _ (List.mem_append_right _ (List.mem_append_right _ (List.mem_append_right _ (List.mem_append_right _ (List.mem_append_right _ (List.mem_of_getElem? (l := tables_1_7) (i := 11) rfl)))))))) rfl), mi_260, mf_260, rfl, Nat.le_of_ble_eq_true rfl⟩
set_option maxRecDepth 100000 in
theorem mf_143 : MFr pm_143 3 := ⟨(gw (List.mem_append_right _ (List.mem_append_right _ (List.mem_append_right _ (List.mem_append_right _ (List.mem_append_left _ (List.mem_of_getElem? (l := tables_1_4) (i := 152) rfl)))))) rfl), ini_0, by decide +kernel, by decide +kernel⟩
set_option maxRecDepth 100000 in
theorem mi_143 : Jvm.Cond.instanceMethod pm_143.2.1 ∈ gtb ∧ Jvm.Cond.selects pm_143.2.1.cls pm_143.2.1 pm_143.2.1 ∈ gtb := ⟨(gw (List.mem_append_right _ (List.mem_append_right _ (List.mem_append_right _ (List.mem_append_right _ (List.mem_append_left _ (List.mem_of_getElem? (l := tables_1_4) (i := 150) rfl)))))) rfl), (gw (List.mem_append_right _ (List.mem_append_right _ (List.mem_append_right _ (List.mem_append_right _ (List.mem_append_left _ (List.mem_of_getElem? (l := tables_1_4) (i := 151) rfl)))))) rfl)⟩
set_option maxRecDepth 100000 in
theorem ml_332 : MPr [15, 154, 1, 143, 4, 1, 8] := ⟨"OneAtATimeLaw", pm_143, ("OneAtATime", kT8, 9), rfl, rfl, rfl, rfl, (gw (List.mem_append_right _ (List.mem_append_right _ (List.mem_append_right _ (List.mem_append_right _ (List.mem_append_left _ (List.mem_of_getElem? (l := tables_1_4) (i := 149) rfl)))))) rfl), mi_143, mf_143, rfl, Nat.le_of_ble_eq_true rfl⟩
set_option maxRecDepth 100000 in
theorem mf_266 : MFr pm_266 3 := ⟨(gw (List.mem_append_right _ (List.mem_append_right _ (List.mem_append_right _ (List.mem_append_right _ (List.mem_append_right _ (List.mem_append_right _ (List.mem_append_right _ (List.mem_of_getElem? (l := tables_1_7) (i := 37) rfl)))))))) rfl), ini_14, by decide +kernel, by decide +kernel⟩
set_option maxRecDepth 100000 in
theorem mi_266 : Jvm.Cond.instanceMethod pm_266.2.1 ∈ gtb ∧ Jvm.Cond.selects pm_266.2.1.cls pm_266.2.1 pm_266.2.1 ∈ gtb := ⟨(gw (List.mem_append_right _ (List.mem_append_right _ (List.mem_append_right _ (List.mem_append_right _ (List.mem_append_right _ (List.mem_append_right _ (List.mem_append_right _ (List.mem_of_getElem? (l := tables_1_7) (i := 35) rfl)))))))) rfl), (gw (List.mem_append_right _ (List.mem_append_right _ (List.mem_append_right _ (List.mem_append_right _ (List.mem_append_right _ (List.mem_append_right _ (List.mem_append_right _ (List.mem_of_getElem? (l := tables_1_7) (i := 36) rfl)))))))) rfl)⟩
set_option maxRecDepth 100000 in
theorem ml_333 : MPr [15, 157, 1, 266, 4, 1, 9] := ⟨"OneAtATimeLaw", pm_266, ("OneAtATimeModel", kT9, 29), rfl, rfl, rfl, rfl, (gw (List.mem_append_right _ (List.mem_append_right _ (List.mem_append_right _ (List.mem_append_right _ (List.mem_append_right _ (List.mem_append_right _ (List.mem_append_right _ (List.mem_of_getElem? (l := tables_1_7) (i := 34) rfl)))))))) rfl), mi_266, mf_266, rfl, Nat.le_of_ble_eq_true rfl⟩
set_option maxRecDepth 100000 in
theorem mf_145 : MFr pm_145 3 := ⟨(gw (List.mem_append_right _ (List.mem_append_right _ (List.mem_append_right _ (List.mem_append_right _ (List.mem_append_left _ (List.mem_of_getElem? (l := tables_1_4) (i := 159) rfl)))))) rfl), ini_0, by decide +kernel, by decide +kernel⟩
set_option maxRecDepth 100000 in
theorem mi_145 : Jvm.Cond.instanceMethod pm_145.2.1 ∈ gtb ∧ Jvm.Cond.selects pm_145.2.1.cls pm_145.2.1 pm_145.2.1 ∈ gtb := ⟨(gw (List.mem_append_right _ (List.mem_append_right _ (List.mem_append_right _ (List.mem_append_right _ (List.mem_append_left _ (List.mem_of_getElem? (l := tables_1_4) (i := 157) rfl)))))) rfl), (gw (List.mem_append_right _ (List.mem_append_right _ (List.mem_append_right _ (List.mem_append_right _ (List.mem_append_left _ (List.mem_of_getElem? (l := tables_1_4) (i := 158) rfl)))))) rfl)⟩
set_option maxRecDepth 100000 in
theorem ml_334 : MPr [15, 158, 1, 145, 4, 1, 8] := ⟨"OneAtATimeLaw", pm_145, ("OneAtATime", kT8, 9), rfl, rfl, rfl, rfl, (gw (List.mem_append_right _ (List.mem_append_right _ (List.mem_append_right _ (List.mem_append_right _ (List.mem_append_left _ (List.mem_of_getElem? (l := tables_1_4) (i := 156) rfl)))))) rfl), mi_145, mf_145, rfl, Nat.le_of_ble_eq_true rfl⟩
set_option maxRecDepth 100000 in
theorem mf_267 : MFr pm_267 3 := ⟨(gw (List.mem_append_right _ (List.mem_append_right _ (List.mem_append_right _ (List.mem_append_right _ (List.mem_append_right _ (List.mem_append_right _ (List.mem_append_right _ (List.mem_of_getElem? (l := tables_1_7) (i := 41) rfl)))))))) rfl), ini_14, by decide +kernel, by decide +kernel⟩
set_option maxRecDepth 100000 in
theorem mi_267 : Jvm.Cond.instanceMethod pm_267.2.1 ∈ gtb ∧ Jvm.Cond.selects pm_267.2.1.cls pm_267.2.1 pm_267.2.1 ∈ gtb := ⟨(gw (List.mem_append_right _ (List.mem_append_right _ (List.mem_append_right _ (List.mem_append_right _ (List.mem_append_right _ (List.mem_append_right _ (List.mem_append_right _ (List.mem_of_getElem? (l := tables_1_7) (i := 39) rfl)))))))) rfl), (gw (List.mem_append_right _ (List.mem_append_right _ (List.mem_append_right _ (List.mem_append_right _ (List.mem_append_right _ (List.mem_append_right _ (List.mem_append_right _ (List.mem_of_getElem? (l := tables_1_7) (i := 40) rfl)))))))) rfl)⟩
set_option maxRecDepth 100000 in
theorem ml_335 : MPr [15, 161, 1, 267, 4, 1, 9] := ⟨"OneAtATimeLaw", pm_267, ("OneAtATimeModel", kT9, 29), rfl, rfl, rfl, rfl, (gw (List.mem_append_right _ (List.mem_append_right _ (List.mem_append_right _ (List.mem_append_right _ (List.mem_append_right _ (List.mem_append_right _ (List.mem_append_right _ (List.mem_of_getElem? (l := tables_1_7) (i := 38) rfl)))))))) rfl), mi_267, mf_267, rfl, Nat.le_of_ble_eq_true rfl⟩
set_option maxRecDepth 100000 in
theorem mf_148 : MFr pm_148 1 := ⟨(gw (List.mem_append_right _ (List.mem_append_right _ (List.mem_append_right _ (List.mem_append_right _ (List.mem_append_left _ (List.mem_of_getElem? (l := tables_1_4) (i := 170) rfl)))))) rfl), ini_0, by decide +kernel, by decide +kernel⟩
set_option maxRecDepth 100000 in
theorem mi_148 : Jvm.Cond.instanceMethod pm_148.2.1 ∈ gtb ∧ Jvm.Cond.selects pm_148.2.1.cls pm_148.2.1 pm_148.2.1 ∈ gtb := ⟨(gw (List.mem_append_right _ (List.mem_append_right _ (List.mem_append_right _ (List.mem_append_right _ (List.mem_append_left _ (List.mem_of_getElem? (l := tables_1_4) (i := 168) rfl)))))) rfl), (gw (List.mem_append_right _ (List.mem_append_right _ (List.mem_append_right _ (List.mem_append_right _ (List.mem_append_left _ (List.mem_of_getElem? (l := tables_1_4) (i := 169) rfl)))))) rfl)⟩
set_option maxRecDepth 100000 in
theorem ml_336 : MPr [15, 162, 1, 148, 2, 1, 8] := ⟨"OneAtATimeLaw", pm_148, ("OneAtATime", kT8, 9), rfl, rfl, rfl, rfl, (gw (List.mem_append_right _ (List.mem_append_right _ (List.mem_append_right _ (List.mem_append_right _ (List.mem_append_left _ (List.mem_of_getElem? (l := tables_1_4) (i := 167) rfl)))))) rfl), mi_148, mf_148, rfl, Nat.le_of_ble_eq_true rfl⟩
set_option maxRecDepth 100000 in
theorem mf_269 : MFr pm_269 1 := ⟨(gw (List.mem_append_right _ (List.mem_append_right _ (List.mem_append_right _ (List.mem_append_right _ (List.mem_append_right _ (List.mem_append_right _ (List.mem_append_right _ (List.mem_of_getElem? (l := tables_1_7) (i := 49) rfl)))))))) rfl), ini_14, by decide +kernel, by decide +kernel⟩
set_option maxRecDepth 100000 in
theorem mi_269 : Jvm.Cond.instanceMethod pm_269.2.1 ∈ gtb ∧ Jvm.Cond.selects pm_269.2.1.cls pm_269.2.1 pm_269.2.1 ∈ gtb := ⟨(gw (List.mem_append_right _ (List.mem_append_right _ (List.mem_append_right _ (List.mem_append_right _ (List.mem_append_right _ (List.mem_append_right _ (List.mem_append_right _ (List.mem_of_getElem? (l := tables_1_7) (i := 47) rfl)))))))) rfl), (gw (List.mem_append_right _ (List.mem_append_right _ (List.mem_append_right _ (List.mem_append_right _ (List.mem_append_right _ (List.mem_append_right _ (List.mem_append_right _ (List.mem_of_getElem? (l := tables_1_7) (i := 48) rfl)))))))) rfl)⟩
set_option maxRecDepth 100000 in
theorem ml_337 : MPr [15, 165, 1, 269, 2, 1, 9] := ⟨"OneAtATimeLaw", pm_269, ("OneAtATimeModel", kT9, 29), rfl, rfl, rfl, rfl, (gw (List.mem_append_right _ (List.mem_append_right _ (List.mem_append_right _ (List.mem_append_right _ (List.mem_append_right _ (List.mem_append_right _ (List.mem_append_right _ (List.mem_of_getElem? (l := tables_1_7) (i := 46) rfl)))))))) rfl), mi_269, mf_269, rfl, Nat.le_of_ble_eq_true rfl⟩
set_option maxRecDepth 100000 in
theorem mf_150 : MFr pm_150 3 := ⟨(gw (List.mem_append_right _ (List.mem_append_right _ (List.mem_append_right _ (List.mem_append_right _ (List.mem_append_left _ (List.mem_of_getElem? (l := tables_1_4) (i := 178) rfl)))))) rfl), ini_0, by decide +kernel, by decide +kernel⟩
set_option maxRecDepth 100000 in
theorem mi_150 : Jvm.Cond.instanceMethod pm_150.2.1 ∈ gtb ∧ Jvm.Cond.selects pm_150.2.1.cls pm_150.2.1 pm_150.2.1 ∈ gtb := ⟨(gw (List.mem_append_right _ (List.mem_append_right _ (List.mem_append_right _ (List.mem_append_right _ (List.mem_append_left _ (List.mem_of_getElem? (l := tables_1_4) (i := 176) rfl)))))) rfl), (gw (List.mem_append_right _ (List.mem_append_right _ (List.mem_append_right _ (List.mem_append_right _ (List.mem_append_left _ (List.mem_of_getElem? (l := tables_1_4) (i := 177) rfl)))))) rfl)⟩
set_option maxRecDepth 100000 in
theorem ml_338 : MPr [15, 166, 1, 150, 4, 1, 8] := ⟨"OneAtATimeLaw", pm_150, ("OneAtATime", kT8, 9), rfl, rfl, rfl, rfl, (gw (List.mem_append_right _ (List.mem_append_right _ (List.mem_append_right _ (List.mem_append_right _ (List.mem_append_left _ (List.mem_of_getElem? (l := tables_1_4) (i := 175) rfl)))))) rfl), mi_150, mf_150, rfl, Nat.le_of_ble_eq_true rfl⟩
set_option maxRecDepth 100000 in
theorem mf_270 : MFr pm_270 3 := ⟨(gw (List.mem_append_right _ (List.mem_append_right _ (List.mem_append_right _ (List.mem_append_right _ (List.mem_append_right _ (List.mem_append_right _ (List.mem_append_right _ (List.mem_of_getElem? (l := tables_1_7) (i := 53) rfl)))))))) rfl), ini_14, by decide +kernel, by decide +kernel⟩
set_option maxRecDepth 100000 in
theorem mi_270 : Jvm.Cond.instanceMethod pm_270.2.1 ∈ gtb ∧ Jvm.Cond.selects pm_270.2.1.cls pm_270.2.1 pm_270.2.1 ∈ gtb := ⟨(gw (List.mem_append_right _ (List.mem_append_right _ (List.mem_append_right _ (List.mem_append_right _ (List.mem_append_right _ (List.mem_append_right _ (List.mem_append_right _ (List.mem_of_getElem? (l := tables_1_7) (i := 51) rfl)))))))) rfl), (gw (List.mem_append_right _ (List.mem_append_right _ (List.mem_append_right _ (List.mem_append_right _ (List.mem_append_right _ (List.mem_append_right _ (List.mem_append_right _ (List.mem_of_getElem? (l := tables_1_7) (i := 52) rfl)))))))) rfl)⟩
set_option maxRecDepth 100000 in
theorem ml_339 : MPr [15, 169, 1, 270, 4, 1, 9] := ⟨"OneAtATimeLaw", pm_270, ("OneAtATimeModel", kT9, 29), rfl, rfl, rfl, rfl, (gw (List.mem_append_right _ (List.mem_append_right _ (List.mem_append_right _ (List.mem_append_right _ (List.mem_append_right _ (List.mem_append_right _ (List.mem_append_right _ (List.mem_of_getElem? (l := tables_1_7) (i := 50) rfl)))))))) rfl), mi_270, mf_270, rfl, Nat.le_of_ble_eq_true rfl⟩
set_option maxRecDepth 100000 in
theorem mf_152 : MFr pm_152 1 := ⟨(gw (List.mem_append_right _ (List.mem_append_right _ (List.mem_append_right _ (List.mem_append_right _ (List.mem_append_left _ (List.mem_of_getElem? (l := tables_1_4) (i := 185) rfl)))))) rfl), ini_0, by decide +kernel, by decide +kernel⟩
set_option maxRecDepth 100000 in
theorem mi_152 : Jvm.Cond.instanceMethod pm_152.2.1 ∈ gtb ∧ Jvm.Cond.selects pm_152.2.1.cls pm_152.2.1 pm_152.2.1 ∈ gtb := ⟨(gw (List.mem_append_right _ (List.mem_append_right _ (List.mem_append_right _ (List.mem_append_right _ (List.mem_append_left _ (List.mem_of_getElem? (l := tables_1_4) (i := 183) rfl)))))) rfl), (gw (List.mem_append_right _ (List.mem_append_right _ (List.mem_append_right _ (List.mem_append_right _ (List.mem_append_left _ (List.mem_of_getElem? (l := tables_1_4) (i := 184) rfl)))))) rfl)⟩
set_option maxRecDepth 100000 in
theorem ml_340 : MPr [15, 170, 1, 152, 2, 1, 8] := ⟨"OneAtATimeLaw", pm_152, ("OneAtATime", kT8, 9), rfl, rfl, rfl, rfl, (gw (List.mem_append_right _ (List.mem_append_right _ (List.mem_append_right _ (List.mem_append_right _ (List.mem_append_left _ (List.mem_of_getElem? (l := tables_1_4) (i := 182) rfl)))))) rfl), mi_152, mf_152, rfl, Nat.le_of_ble_eq_true rfl⟩
set_option maxRecDepth 100000 in
theorem mf_271 : MFr pm_271 1 := ⟨(gw (List.mem_append_right _ (List.mem_append_right _ (List.mem_append_right _ (List.mem_append_right _ (List.mem_append_right _ (List.mem_append_right _ (List.mem_append_right _ (List.mem_of_getElem? (l := tables_1_7) (i := 57) rfl)))))))) rfl), ini_14, by decide +kernel, by decide +kernel⟩
set_option maxRecDepth 100000 in
theorem mi_271 : Jvm.Cond.instanceMethod pm_271.2.1 ∈ gtb ∧ Jvm.Cond.selects pm_271.2.1.cls pm_271.2.1 pm_271.2.1 ∈ gtb := ⟨(gw (List.mem_append_right _ (List.mem_append_right _ (List.mem_append_right _ (List.mem_append_right _ (List.mem_append_right _ (List.mem_append_right _ (List.mem_append_right _ (List.mem_of_getElem? (l := tables_1_7) (i := 55) rfl)))))))) rfl), (gw (List.mem_append_right _ (List.mem_append_right _ (List.mem_append_right _ (List.mem_append_right _ (List.mem_append_right _ (List.mem_append_right _ (List.mem_append_right _ (List.mem_of_getElem? (l := tables_1_7) (i := 56) rfl)))))))) rfl)⟩
set_option maxRecDepth 100000 in
theorem ml_341 : MPr [15, 173, 1, 271, 2, 1, 9] := ⟨"OneAtATimeLaw", pm_271, ("OneAtATimeModel", kT9, 29), rfl, rfl, rfl, rfl, (gw (List.mem_append_right _ (List.mem_append_right _ (List.mem_append_right _ (List.mem_append_right _ (List.mem_append_right _ (List.mem_append_right _ (List.mem_append_right _ (List.mem_of_getElem? (l := tables_1_7) (i := 54) rfl)))))))) rfl), mi_271, mf_271, rfl, Nat.le_of_ble_eq_true rfl⟩
set_option maxRecDepth 100000 in
theorem mf_154 : MFr pm_154 2 := ⟨(gw (List.mem_append_right _ (List.mem_append_right _ (List.mem_append_right _ (List.mem_append_right _ (List.mem_append_left _ (List.mem_of_getElem? (l := tables_1_4) (i := 193) rfl)))))) rfl), ini_0, by decide +kernel, by decide +kernel⟩
set_option maxRecDepth 100000 in
theorem mi_154 : Jvm.Cond.instanceMethod pm_154.2.1 ∈ gtb ∧ Jvm.Cond.selects pm_154.2.1.cls pm_154.2.1 pm_154.2.1 ∈ gtb := ⟨(gw (List.mem_append_right _ (List.mem_append_right _ (List.mem_append_right _ (List.mem_append_right _ (List.mem_append_left _ (List.mem_of_getElem? (l := tables_1_4) (i := 191) rfl)))))) rfl), (gw (List.mem_append_right _ (List.mem_append_right _ (List.mem_append_right _ (List.mem_append_right _ (List.mem_append_left _ (List.mem_of_getElem? (l := tables_1_4) (i := 192) rfl)))))) rfl)⟩
set_option maxRecDepth 100000 in
theorem ml_342 : MPr [15, 174, 1, 154, 3, 1, 8] := ⟨"OneAtATimeLaw", pm_154, ("OneAtATime", kT8, 9), rfl, rfl, rfl, rfl, (gw (List.mem_append_right _ (List.mem_append_right _ (List.mem_append_right _ (List.mem_append_right _ (List.mem_append_left _ (List.mem_of_getElem? (l := tables_1_4) (i := 190) rfl)))))) rfl), mi_154, mf_154, rfl, Nat.le_of_ble_eq_true rfl⟩
set_option maxRecDepth 100000 in
theorem mf_272 : MFr pm_272 2 := ⟨(gw (List.mem_append_right _ (List.mem_append_right _ (List.mem_append_right _ (List.mem_append_right _ (List.mem_append_right _ (List.mem_append_right _ (List.mem_append_right _ (List.mem_of_getElem? (l := tables_1_7) (i := 61) rfl)))))))) rfl), ini_14, by decide +kernel, by decide +kernel⟩
set_option maxRecDepth 100000 in
theorem mi_272 : Jvm.Cond.instanceMethod pm_272.2.1 ∈ gtb ∧ Jvm.Cond.selects pm_272.2.1.cls pm_272.2.1 pm_272.2.1 ∈ gtb := ⟨(gw (List.mem_append_right _ (List.mem_append_right _ (List.mem_append_right _ (List.mem_append_right _ (List.mem_append_right _ (List.mem_append_right _ (List.mem_append_right _ (List.mem_of_getElem? (l := tables_1_7) (i := 59) rfl)))))))) rfl), (gw (List.mem_append_right _ (List.mem_append_right _ (List.mem_append_right _ (List.mem_append_right _ (List.mem_append_right _ (List.mem_append_right _ (List.mem_append_right _ (List.mem_of_getElem? (l := tables_1_7) (i := 60) rfl)))))))) rfl)⟩
set_option maxRecDepth 100000 in
theorem ml_343 : MPr [15, 177, 1, 272, 3, 1, 9] := ⟨"OneAtATimeLaw", pm_272, ("OneAtATimeModel", kT9, 29), rfl, rfl, rfl, rfl, (gw (List.mem_append_right _ (List.mem_append_right _ (List.mem_append_right _ (List.mem_append_right _ (List.mem_append_right _ (List.mem_append_right _ (List.mem_append_right _ (List.mem_of_getElem? (l := tables_1_7) (i := 58) rfl)))))))) rfl), mi_272, mf_272, rfl, Nat.le_of_ble_eq_true rfl⟩
set_option maxRecDepth 100000 in
theorem mf_155 : MFr pm_155 3 := ⟨(gw (List.mem_append_right _ (List.mem_append_right _ (List.mem_append_right _ (List.mem_append_right _ (List.mem_append_left _ (List.mem_of_getElem? (l := tables_1_4) (i := 199) rfl)))))) rfl), ini_0, by decide +kernel, by decide +kernel⟩
set_option maxRecDepth 100000 in
theorem mi_155 : Jvm.Cond.instanceMethod pm_155.2.1 ∈ gtb ∧ Jvm.Cond.selects pm_155.2.1.cls pm_155.2.1 pm_155.2.1 ∈ gtb := ⟨(gw (List.mem_append_right _ (List.mem_append_right _ (List.mem_append_right _ (List.mem_append_right _ (List.mem_append_left _ (List.mem_of_getElem? (l := tables_1_4) (i := 197) rfl)))))) rfl), (gw (List.mem_append_right _ (List.mem_append_right _ (List.mem_append_right _ (List.mem_append_right _ (List.mem_append_left _ (List.mem_of_getElem? (l := tables_1_4) (i := 198) rfl)))))) rfl)⟩
set_option maxRecDepth 100000 in
theorem ml_344 : MPr [15, 178, 1, 155, 4, 1, 8] := ⟨"OneAtATimeLaw", pm_155, ("OneAtATime", kT8, 9), rfl, rfl, rfl, rfl, (gw (List.mem_append_right _ (List.mem_append_right _ (List.mem_append_right _ (List.mem_append_right _ (List.mem_append_left _ (List.mem_of_getElem? (l := tables_1_4) (i := 196) rfl)))))) rfl), mi_155, mf_155, rfl, Nat.le_of_ble_eq_true rfl⟩
set_option maxRecDepth 100000 in
theorem mf_274 : MFr pm_274 3 := ⟨(gw (List.mem_append_right _ (List.mem_append_right _ (List.mem_append_right _ (List.mem_append_right _ (List.mem_append_right _ (List.mem_append_right _ (List.mem_append_right _ (List.mem_of_getElem? (l := tables_1_7) (i := 69) rfl)))))))) rfl), ini_14, by decide +kernel, by decide +kernel⟩
set_option maxRecDepth 100000 in
theorem mi_274 : Jvm.Cond.instanceMethod pm_274.2.1 ∈ gtb ∧ Jvm.Cond.selects pm_274.2.1.cls pm_274.2.1 pm_274.2.1 ∈ gtb := ⟨(gw (List.mem_append_right _ (List.mem_append_right _ (List.mem_append_right _ (List.mem_append_right _ (List.mem_append_right _ (List.mem_append_right _ (List.mem_append_right _ (List.mem_of_getElem? (l := tables_1_7) (i := 67) rfl)))))))) rfl), (gw (List.mem_append_right _ (List.mem_append_right _ (List.mem_append_right _ (List.mem_append_right _ (List.mem_append_right _ (List.mem_append_right _ (List.mem_append_right _ (List.mem_of_getElem? (l := tables_1_7) (i := 68) rfl)))))))) rfl)⟩
set_option maxRecDepth 100000 in
theorem ml_345 : MPr [15, 181, 1, 274, 4, 1, 9] := ⟨"OneAtATimeLaw", pm_274, ("OneAtATimeModel", kT9, 29), rfl, rfl, rfl, rfl, (gw (List.mem_append_right _ (List.mem_append_right _ (List.mem_append_right _ (List.mem_append_right _ (List.mem_append_right _ (List.mem_append_right _ (List.mem_append_right _ (List.mem_of_getElem? (l := tables_1_7) (i := 66) rfl)))))))) rfl), mi_274, mf_274, rfl, Nat.le_of_ble_eq_true rfl⟩
set_option maxRecDepth 100000 in
theorem mf_157 : MFr pm_157 1 := ⟨(gw (List.mem_append_right _ (List.mem_append_right _ (List.mem_append_right _ (List.mem_append_right _ (List.mem_append_left _ (List.mem_of_getElem? (l := tables_1_4) (i := 206) rfl)))))) rfl), ini_0, by decide +kernel, by decide +kernel⟩
set_option maxRecDepth 100000 in
theorem mi_157 : Jvm.Cond.instanceMethod pm_157.2.1 ∈ gtb ∧ Jvm.Cond.selects pm_157.2.1.cls pm_157.2.1 pm_157.2.1 ∈ gtb := ⟨(gw (List.mem_append_right _ (List.mem_append_right _ (List.mem_append_right _ (List.mem_append_right _ (List.mem_append_left _ (List.mem_of_getElem? (l := tables_1_4) (i := 204) rfl)))))) rfl), (gw (List.mem_append_right _ (List.mem_append_right _ (List.mem_append_right _ (List.mem_append_right _ (List.mem_append_left _ (List.mem_of_getElem? (l := tables_1_4) (i := 205) rfl)))))) rfl)⟩
set_option maxRecDepth 100000 in
theorem ml_346 : MPr [15, 182, 1, 157, 2, 1, 8] := ⟨"OneAtATimeLaw", pm_157, ("OneAtATime", kT8, 9), rfl, rfl, rfl, rfl, (gw (List.mem_append_right _ (List.mem_append_right _ (List.mem_append_right _ (List.mem_append_right _ (List.mem_append_left _ (List.mem_of_getElem? (l := tables_1_4) (i := 203) rfl)))))) rfl), mi_157, mf_157, rfl, Nat.le_of_ble_eq_true rfl⟩
set_option maxRecDepth 100000 in
theorem mf_275 : MFr pm_275 1 := ⟨(gw (List.mem_append_right _ (List.mem_append_right _ (List.mem_append_right _ (List.mem_append_right _ (List.mem_append_right _ (List.mem_append_right _ (List.mem_append_right _ (List.mem_of_getElem? (l := tables_1_7) (i := 73) rfl)))))))) rfl), ini_14, by decide +kernel, by decide +kernel⟩
set_option maxRecDepth 100000 in
theorem mi_275 : Jvm.Cond.instanceMethod pm_275.2.1 ∈ gtb ∧ Jvm.Cond.selects pm_275.2.1.cls pm_275.2.1 pm_275.2.1 ∈ gtb := ⟨(gw (List.mem_append_right _ (List.mem_append_right _ (List.mem_append_right _ (List.mem_append_right _ (List.mem_append_right _ (List.mem_append_right _ (List.mem_append_right _ (List.mem_of_getElem? (l := tables_1_7) (i := 71) rfl)))))))) rfl), (gw (List.mem_append_right _ (List.mem_append_right _ (List.mem_append_right _ (List.mem_append_right _ (List.mem_append_right _ (List.mem_append_right _ (List.mem_append_right _ (List.mem_of_getElem? (l := tables_1_7) (i := 72) rfl)))))))) rfl)⟩
set_option maxRecDepth 100000 in
theorem ml_347 : MPr [15, 185, 1, 275, 2, 1, 9] := ⟨"OneAtATimeLaw", pm_275, ("OneAtATimeModel", kT9, 29), rfl, rfl, rfl, rfl, (gw (List.mem_append_right _ (List.mem_append_right _ (List.mem_append_right _ (List.mem_append_right _ (List.mem_append_right _ (List.mem_append_right _ (List.mem_append_right _ (List.mem_of_getElem? (l := tables_1_7) (i := 70) rfl)))))))) rfl), mi_275, mf_275, rfl, Nat.le_of_ble_eq_true rfl⟩
set_option maxRecDepth 100000 in
theorem mf_158 : MFr pm_158 2 := ⟨(gw (List.mem_append_right _ (List.mem_append_right _ (List.mem_append_right _ (List.mem_append_right _ (List.mem_append_left _ (List.mem_of_getElem? (l := tables_1_4) (i := 212) rfl)))))) rfl), ini_0, by decide +kernel, by decide +kernel⟩
set_option maxRecDepth 100000 in
theorem mi_158 : Jvm.Cond.instanceMethod pm_158.2.1 ∈ gtb ∧ Jvm.Cond.selects pm_158.2.1.cls pm_158.2.1 pm_158.2.1 ∈ gtb := ⟨(gw (List.mem_append_right _ (List.mem_append_right _ (List.mem_append_right _ (List.mem_append_right _ (List.mem_append_left _ (List.mem_of_getElem? (l := tables_1_4) (i := 210) rfl)))))) rfl), (gw (List.mem_append_right _ (List.mem_append_right _ (List.mem_append_right _ (List.mem_append_right _ (List.mem_append_left _ (List.mem_of_getElem? (l := tables_1_4) (i := 211) rfl)))))) rfl)⟩
set_option maxRecDepth 100000 in
theorem ml_348 : MPr [15, 186, 1, 158, 3, 1, 8] := ⟨"OneAtATimeLaw", pm_158, ("OneAtATime", kT8, 9), rfl, rfl, rfl, rfl, (gw (List.mem_append_right _ (List.mem_append_right _ (List.mem_append_right _ (List.mem_append_right _ (List.mem_append_left _ (List.mem_of_getElem? (l := tables_1_4) (i := 209) rfl)))))) rfl), mi_158, mf_158, rfl, Nat.le_of_ble_eq_true rfl⟩
set_option maxRecDepth 100000 in
theorem mf_276 : MFr pm_276 2 := ⟨(gw (List.mem_append_right _ (List.mem_append_right _ (List.mem_append_right _ (List.mem_append_right _ (List.mem_append_right _ (List.mem_append_right _ (List.mem_append_right _ (List.mem_of_getElem? (l := tables_1_7) (i := 77) rfl)))))))) rfl), ini_14, by decide +kernel, by decide +kernel⟩
set_option maxRecDepth 100000 in
theorem mi_276 : Jvm.Cond.instanceMethod pm_276.2.1 ∈ gtb ∧ Jvm.Cond.selects pm_276.2.1.cls pm_276.2.1 pm_276.2.1 ∈ gtb := ⟨(gw (List.mem_append_right _ (List.mem_append_right _ (List.mem_append_right _ (List.mem_append_right _ (List.mem_append_right _ (List.mem_append_right _ (List.mem_append_right _ (List.mem_of_getElem? (l := tables_1_7) (i := 75) rfl)))))))) rfl), (gw (List.mem_append_right _ (List.mem_append_right _ (List.mem_append_right _ (List.mem_append_right _ (List.mem_append_right _ (List.mem_append_right _ (List.mem_append_right _ (List.mem_of_getElem? (l := tables_1_7) (i := 76) rfl)))))))) rfl)⟩
set_option maxRecDepth 100000 in
theorem ml_349 : MPr [15, 189, 1, 276, 3, 1, 9] := ⟨"OneAtATimeLaw", pm_276, ("OneAtATimeModel", kT9, 29), rfl, rfl, rfl, rfl, (gw (List.mem_append_right _ (List.mem_append_right _ (List.mem_append_right _ (List.mem_append_right _ (List.mem_append_right _ (List.mem_append_right _ (List.mem_append_right _ (List.mem_of_getElem? (l := tables_1_7) (i := 74) rfl)))))))) rfl), mi_276, mf_276, rfl, Nat.le_of_ble_eq_true rfl⟩
set_option maxRecDepth 100000 in
theorem mf_159 : MFr pm_159 2 := ⟨(gw (List.mem_append_right _ (List.mem_append_right _ (List.mem_append_right _ (List.mem_append_right _ (List.mem_append_left _ (List.mem_of_getElem? (l := tables_1_4) (i := 216) rfl)))))) rfl), ini_0, by decide +kernel, by decide +kernel⟩
set_option maxRecDepth 100000 in
theorem mi_159 : Jvm.Cond.instanceMethod pm_159.2.1 ∈ gtb ∧ Jvm.Cond.selects pm_159.2.1.cls pm_159.2.1 pm_159.2.1 ∈ gtb := ⟨(gw (List.mem_append_right _ (List.mem_append_right _ (List.mem_append_right _ (List.mem_append_right _ (List.mem_append_left _ (List.mem_of_getElem? (l := tables_1_4) (i := 214) rfl)))))) rfl), (gw (List.mem_append_right _ (List.mem_append_right _ (List.mem_append_right _ (List.mem_append_right _ (List.mem_append_left _ (List.mem_of_getElem? (l := tables_1_4) (i := 215) rfl)))))) rfl)⟩
set_option maxRecDepth 100000 in
theorem ml_350 : MPr [15, 190, 1, 159, 3, 1, 8] := ⟨"OneAtATimeLaw", pm_159, ("OneAtATime", kT8, 9), rfl, rfl, rfl, rfl, (gw (List.mem_append_right _ (List.mem_append_right _ (List.mem_append_right _ (List.mem_append_right _ (List.mem_append_left _ (List.mem_of_getElem? (l := tables_1_4) (i := 213) rfl)))))) rfl), mi_159, mf_159, rfl, Nat.le_of_ble_eq_true rfl⟩
set_option maxRecDepth 100000 in
theorem mf_277 : MFr pm_277 2 := ⟨(gw (List.mem_append_right _ (List.mem_append_right _ (List.mem_append_right _ (List.mem_append_right _ (List.mem_append_right _ (List.mem_append_right _ (List.mem_append_right _ (List.mem_of_getElem? (l := tables_1_7) (i := 81) rfl)))))))) rfl), ini_14, by decide +kernel, by decide +kernel⟩
set_option maxRecDepth 100000 in
theorem mi_277 : Jvm.Cond.instanceMethod pm_277.2.1 ∈ gtb ∧ Jvm.Cond.selects pm_277.2.1.cls pm_277.2.1 pm_277.2.1 ∈ gtb := ⟨(gw (List.mem_append_right _ (List.mem_append_right _ (List.mem_append_right _ (List.mem_append_right _ (List.mem_append_right _ (List.mem_append_right _ (List.mem_append_right _ (List.mem_of_getElem? (l := tables_1_7) (i := 79) rfl)))))))) rfl), (gw (List.mem_append_right _ (List.mem_append_right _ (List.mem_append_right _ (List.mem_append_right _ (List.mem_append_right _ (List.mem_append_right _ (List.mem_append_right _ (List.mem_of_getElem? (l := tables_1_7) (i := 80) rfl)))))))) rfl)⟩
set_option maxRecDepth 100000 in
theorem ml_351 : MPr [15, 193, 1, 277, 3, 1, 9] := ⟨"OneAtATimeLaw", pm_277, ("OneAtATimeModel", kT9, 29), rfl, rfl, rfl, rfl, (gw (List.mem_append_right _ (List.mem_append_right _ (List.mem_append_right _ (List.mem_append_right _ (List.mem_append_right _ (List.mem_append_right _ (List.mem_append_right _ (List.mem_of_getElem? (l := tables_1_7) (i := 78) rfl)))))))) rfl), mi_277, mf_277, rfl, Nat.le_of_ble_eq_true rfl⟩
set_option maxRecDepth 100000 in
theorem mf_160 : MFr pm_160 2 := ⟨(gw (List.mem_append_right _ (List.mem_append_right _ (List.mem_append_right _ (List.mem_append_right _ (List.mem_append_left _ (List.mem_of_getElem? (l := tables_1_4) (i := 221) rfl)))))) rfl), ini_0, by decide +kernel, by decide +kernel⟩
set_option maxRecDepth 100000 in
theorem mi_160 : Jvm.Cond.instanceMethod pm_160.2.1 ∈ gtb ∧ Jvm.Cond.selects pm_160.2.1.cls pm_160.2.1 pm_160.2.1 ∈ gtb := ⟨(gw (List.mem_append_right _ (List.mem_append_right _ (List.mem_append_right _ (List.mem_append_right _ (List.mem_append_left _ (List.mem_of_getElem? (l := tables_1_4) (i := 219) rfl)))))) rfl), (gw (List.mem_append_right _ (List.mem_append_right _ (List.mem_append_right _ (List.mem_append_right _ (List.mem_append_left _ (List.mem_of_getElem? (l := tables_1_4) (i := 220) rfl)))))) rfl)⟩
set_option maxRecDepth 100000 in
theorem ml_352 : MPr [15, 194, 1, 160, 3, 1, 8] := ⟨"OneAtATimeLaw", pm_160, ("OneAtATime", kT8, 9), rfl, rfl, rfl, rfl, (gw (List.mem_append_right _ (List.mem_append_right _ (List.mem_append_right _ (List.mem_append_right _ (List.mem_append_left _ (List.mem_of_getElem? (l := tables_1_4) (i := 218) rfl)))))) rfl), mi_160, mf_160, rfl, Nat.le_of_ble_eq_true rfl⟩
set_option maxRecDepth 100000 in
theorem mf_278 : MFr pm_278 2 := ⟨(gw (List.mem_append_right _ (List.mem_append_right _ (List.mem_append_right _ (List.mem_append_right _ (List.mem_append_right _ (List.mem_append_right _ (List.mem_append_right _ (List.mem_of_getElem? (l := tables_1_7) (i := 85) rfl)))))))) rfl), ini_14, by decide +kernel, by decide +kernel⟩
set_option maxRecDepth 100000 in
theorem mi_278 : Jvm.Cond.instanceMethod pm_278.2.1 ∈ gtb ∧ Jvm.Cond.selects pm_278.2.1.cls pm_278.2.1 pm_278.2.1 ∈ gtb := ⟨(gw (List.mem_append_right _ (List.mem_append_right _ (List.mem_append_right _ (List.mem_append_right _ (List.mem_append_right _ (List.mem_append_right _ (List.mem_append_right _ (List.mem_of_getElem? (l := tables_1_7) (i := 83) rfl)))))))) rfl), (gw (List.mem_append_right _ (List.mem_append_right _ (List.mem_append_right _ (List.mem_append_right _ (List.mem_append_right _ (List.mem_append_right _ (List.mem_append_right _ (List.mem_of_getElem? (l := tables_1_7) (i := 84) rfl)))))))) rfl)⟩
set_option maxRecDepth 100000 in
theorem ml_353 : MPr [15, 197, 1, 278, 3, 1, 9] := ⟨"OneAtATimeLaw", pm_278, ("OneAtATimeModel", kT9, 29), rfl, rfl, rfl, rfl, (gw (List.mem_append_right _ (List.mem_append_right _ (List.mem_append_right _ (List.mem_append_right _ (List.mem_append_right _ (List.mem_append_right _ (List.mem_append_right _ (List.mem_of_getElem? (l := tables_1_7) (i := 82) rfl)))))))) rfl), mi_278, mf_278, rfl, Nat.le_of_ble_eq_true rfl⟩
set_option maxRecDepth 100000 in
theorem mf_161 : MFr pm_161 2 := ⟨(gw (List.mem_append_right _ (List.mem_append_right _ (List.mem_append_right _ (List.mem_append_right _ (List.mem_append_left _ (List.mem_of_getElem? (l := tables_1_4) (i := 225) rfl)))))) rfl), ini_0, by decide +kernel, by decide +kernel⟩
set_option maxRecDepth 100000 in
theorem mi_161 : Jvm.Cond.instanceMethod pm_161.2.1 ∈ gtb ∧ Jvm.Cond.selects pm_161.2.1.cls pm_161.2.1 pm_161.2.1 ∈ gtb := ⟨(gw (List.mem_append_right _ (List.mem_append_right _ (List.mem_append_right _ (List.mem_append_right _ (List.mem_append_left _ (List.mem_of_getElem? (l := tables_1_4) (i := 223) rfl)))))) rfl), (gw (List.mem_append_right _ (List.mem_append_right _ (List.mem_append_right _ (List.mem_append_right _ (List.mem_append_left _ (List.mem_of_getElem? (l := tables_1_4) (i := 224) rfl)))))) rfl)⟩
set_option maxRecDepth 100000 in
theorem ml_354 : MPr [15, 198, 1, 161, 3, 1, 8] := ⟨"OneAtATimeLaw", pm_161, ("OneAtATime", kT8, 9), rfl, rfl, rfl, rfl, (gw (List.mem_append_right _ (List.mem_append_right _ (List.mem_append_right _ (List.mem_append_right _ (List.mem_append_left _ (List.mem_of_getElem? (l := tables_1_4) (i := 222) rfl)))))) rfl), mi_161, mf_161, rfl, Nat.le_of_ble_eq_true rfl⟩
set_option maxRecDepth 100000 in
theorem mf_279 : MFr pm_279 2 := ⟨(gw (List.mem_append_right _ (List.mem_append_right _ (List.mem_append_right _ (List.mem_append_right _ (List.mem_append_right _ (List.mem_append_right _ (List.mem_append_right _ (List.mem_of_getElem? (l := tables_1_7) (i := 89) rfl)))))))) rfl), ini_14, by decide +kernel, by decide +kernel⟩
set_option maxRecDepth 100000 in
theorem mi_279 : Jvm.Cond.instanceMethod pm_279.2.1 ∈ gtb ∧ Jvm.Cond.selects pm_279.2.1.cls pm_279.2.1 pm_279.2.1 ∈ gtb := ⟨(gw (List.mem_append_right _ (List.mem_append_right _ (List.mem_append_right _ (List.mem_append_right _ (List.mem_append_right _ (List.mem_append_right _ (List.mem_append_right _ (List.mem_of_getElem? (l := tables_1_7) (i := 87) rfl)))))))) rfl), (gw (List.mem_append_right _ (List.mem_append_right _ (List.mem_append_right _ (List.mem_append_right _ (List.mem_append_right _ (List.mem_append_right _ (List.mem_append_right _ (List.mem_of_getElem? (l := tables_1_7) (i := 88) rfl)))))))) rfl)⟩
set_option maxRecDepth 100000 in
theorem ml_355 : MPr [15, 201, 1, 279, 3, 1, 9] := ⟨"OneAtATimeLaw", pm_279, ("OneAtATimeModel", kT9, 29), rfl, rfl, rfl, rfl, (gw (List.mem_append_right _ (List.mem_append_right _ (List.mem_append_right _ (List.mem_append_right _ (List.mem_append_right _ (List.mem_append_right _ (List.mem_append_right _ (List.mem_of_getElem? (l := tables_1_7) (i := 86) rfl)))))))) rfl), mi_279, mf_279, rfl, Nat.le_of_ble_eq_true rfl⟩
set_option maxRecDepth 100000 in
theorem mf_164 : MFr pm_164 1 := ⟨(gw (List.mem_append_right _ (List.mem_append_right _ (List.mem_append_right _ (List.mem_append_right _ (List.mem_append_left _ (List.mem_of_getElem? (l := tables_1_4) (i := 239) rfl)))))) rfl), ini_0, by decide +kernel, by decide +kernel⟩
set_option maxRecDepth 100000 in
theorem mi_164 : Jvm.Cond.instanceMethod pm_164.2.1 ∈ gtb ∧ Jvm.Cond.selects pm_164.2.1.cls pm_164.2.1 pm_164.2.1 ∈ gtb := ⟨(gw (List.mem_append_right _ (List.mem_append_right _ (List.mem_append_right _ (List.mem_append_right _ (List.mem_append_left _ (List.mem_of_getElem? (l := tables_1_4) (i := 237) rfl)))))) rfl), (gw (List.mem_append_right _ (List.mem_append_right _ (List.mem_append_right _ (List.mem_append_right _ (List.mem_append_left _ (List.mem_of_getElem? (l := tables_1_4) (i := 238) rfl)))))) rfl)⟩
set_option maxRecDepth 100000 in
theorem ml_356 : MPr [15, 202, 1, 164, 2, 1, 8] := ⟨"OneAtATimeLaw", pm_164, ("OneAtATime", kT8, 9), rfl, rfl, rfl, rfl, (gw (List.mem_append_right _ (List.mem_append_right _ (List.mem_append_right _ (List.mem_append_right _ (List.mem_append_left _ (List.mem_of_getElem? (l := tables_1_4) (i := 236) rfl)))))) rfl), mi_164, mf_164, rfl, Nat.le_of_ble_eq_true rfl⟩
set_option maxRecDepth 100000 in
theorem mf_177 : MFr pm_177 1 := ⟨(gw (List.mem_append_right _ (List.mem_append_right _ (List.mem_append_right _ (List.mem_append_right _ (List.mem_append_right _ (List.mem_append_left _ (List.mem_of_getElem? (l := tables_1_5) (i := 151) rfl))))))) rfl), ini_14, by decide +kernel, by decide +kernel⟩
set_option maxRecDepth 100000 in
theorem mi_177 : Jvm.Cond.instanceMethod pm_177.2.1 ∈ gtb ∧ Jvm.Cond.selects pm_177.2.1.cls pm_177.2.1 pm_177.2.1 ∈ gtb := ⟨(gw (List.mem_append_right _ (List.mem_append_right _ (List.mem_append_right _ (List.mem_append_right _ (List.mem_append_right _ (List.mem_append_left _ (List.mem_of_getElem? (l := tables_1_5) (i := 149) rfl))))))) rfl), (gw (List.mem_append_right _ (List.mem_append_right _ (List.mem_append_right _ (List.mem_append_right _ (List.mem_append_right _ (List.mem_append_left _ (List.mem_of_getElem? (l := tables_1_5) (i := 150) rfl))))))) rfl)⟩
set_option maxRecDepth 100000 in
theorem ml_357 : MPr [15, 205, 1, 177, 2, 1, 9] := ⟨"OneAtATimeLaw", pm_177, ("OneAtATimeModel", kT9, 29), rfl, rfl, rfl, rfl, (gw (List.mem_append_right _ (List.mem_append_right _ (List.mem_append_right _ (List.mem_append_right _ (List.mem_append_right _ (List.mem_append_left _ (List.mem_of_getElem? (l := tables_1_5) (i := 148) rfl))))))) rfl), mi_177, mf_177, rfl, Nat.le_of_ble_eq_true rfl⟩
set_option maxRecDepth 100000 in
theorem mf_165 : MFr pm_165 0 := ⟨(gw (List.mem_append_right _ (List.mem_append_right _ (List.mem_append_right _ (List.mem_append_right _ (List.mem_append_right _ (List.mem_append_left _ (List.mem_of_getElem? (l := tables_1_5) (i := 3) rfl))))))) rfl), ini_0, by decide +kernel, by decide +kernel⟩
set_option maxRecDepth 100000 in
theorem mi_165 : Jvm.Cond.instanceMethod pm_165.2.1 ∈ gtb ∧ Jvm.Cond.selects pm_165.2.1.cls pm_165.2.1 pm_165.2.1 ∈ gtb := ⟨(gw (List.mem_append_right _ (List.mem_append_right _ (List.mem_append_right _ (List.mem_append_right _ (List.mem_append_right _ (List.mem_append_left _ (List.mem_of_getElem? (l := tables_1_5) (i := 1) rfl))))))) rfl), (gw (List.mem_append_right _ (List.mem_append_right _ (List.mem_append_right _ (List.mem_append_right _ (List.mem_append_right _ (List.mem_append_left _ (List.mem_of_getElem? (l := tables_1_5) (i := 2) rfl))))))) rfl)⟩
set_option maxRecDepth 100000 in
theorem ml_358 : MPr [15, 206, 1, 165, 1, 1, 8] := ⟨"OneAtATimeLaw", pm_165, ("OneAtATime", kT8, 9), rfl, rfl, rfl, rfl, (gw (List.mem_append_right _ (List.mem_append_right _ (List.mem_append_right _ (List.mem_append_right _ (List.mem_append_right _ (List.mem_append_left _ (List.mem_of_getElem? (l := tables_1_5) (i := 0) rfl))))))) rfl), mi_165, mf_165, rfl, Nat.le_of_ble_eq_true rfl⟩
set_option maxRecDepth 100000 in
theorem mf_176 : MFr pm_176 0 := ⟨(gw (List.mem_append_right _ (List.mem_append_right _ (List.mem_append_right _ (List.mem_append_right _ (List.mem_append_right _ (List.mem_append_left _ (List.mem_of_getElem? (l := tables_1_5) (i := 147) rfl))))))) rfl), ini_14, by decide +kernel, by decide +kernel⟩
set_option maxRecDepth 100000 in
theorem mi_176 : Jvm.Cond.instanceMethod pm_176.2.1 ∈ gtb ∧ Jvm.Cond.selects pm_176.2.1.cls pm_176.2.1 pm_176.2.1 ∈ gtb := ⟨(gw (List.mem_append_right _ (List.mem_append_right _ (List.mem_append_right _ (List.mem_append_right _ (List.mem_append_right _ (List.mem_append_left _ (List.mem_of_getElem? (l := tables_1_5) (i := 145) rfl))))))) rfl), (gw (List.mem_append_right _ (List.mem_append_right _ (List.mem_append_right _ (List.mem_append_right _ (List.mem_append_right _ (List.mem_append_left _ (List.mem_of_getElem? (l := tables_1_5) (i := 146) rfl))))))) rfl)⟩
set_option maxRecDepth 100000 in
theorem ml_359 : MPr [15, 210, 1, 176, 1, 1, 9] := ⟨"OneAtATimeLaw", pm_176, ("OneAtATimeModel", kT9, 29), rfl, rfl, rfl, rfl, (gw (List.mem_append_right _ (List.mem_append_right _ (List.mem_append_right _ (List.mem_append_right _ (List.mem_append_right _ (List.mem_append_left _ (List.mem_of_getElem? (l := tables_1_5) (i := 144) rfl))))))) rfl), mi_176, mf_176, rfl, Nat.le_of_ble_eq_true rfl⟩
set_option maxRecDepth 100000 in
theorem mf_169 : MFr pm_169 2 := ⟨(gw (List.mem_append_right _ (List.mem_append_right _ (List.mem_append_right _ (List.mem_append_right _ (List.mem_append_right _ (List.mem_append_left _ (List.mem_of_getElem? (l := tables_1_5) (i := 19) rfl))))))) rfl), ini_0, by decide +kernel, by decide +kernel⟩
set_option maxRecDepth 100000 in
theorem mi_169 : Jvm.Cond.instanceMethod pm_169.2.1 ∈ gtb ∧ Jvm.Cond.selects pm_169.2.1.cls pm_169.2.1 pm_169.2.1 ∈ gtb := ⟨(gw (List.mem_append_right _ (List.mem_append_right _ (List.mem_append_right _ (List.mem_append_right _ (List.mem_append_right _ (List.mem_append_left _ (List.mem_of_getElem? (l := tables_1_5) (i := 17) rfl))))))) rfl), (gw (List.mem_append_right _ (List.mem_append_right _ (List.mem_append_right _ (List.mem_append_right _ (List.mem_append_right _ (List.mem_append_left _ (List.mem_of_getElem? (l := tables_1_5) (i := 18) rfl))))))) rfl)⟩
set_option maxRecDepth 100000 in
theorem ml_360 : MPr [15, 211, 1, 169, 3, 1, 8] := ⟨"OneAtATimeLaw", pm_169, ("OneAtATime", kT8, 9), rfl, rfl, rfl, rfl, (gw (List.mem_append_right _ (List.mem_append_right _ (List.mem_append_right _ (List.mem_append_right _ (List.mem_append_right _ (List.mem_append_left _ (List.mem_of_getElem? (l := tables_1_5) (i := 16) rfl))))))) rfl), mi_169, mf_169, rfl, Nat.le_of_ble_eq_true rfl⟩
set_option maxRecDepth 100000 in
theorem mf_282 : MFr pm_282 2 := ⟨(gw (List.mem_append_right _ (List.mem_append_right _ (List.mem_append_right _ (List.mem_append_right _ (List.mem_append_right _ (List.mem_append_right _ (List.mem_append_right _ (List.mem_of_getElem? (l := tables_1_7) (i := 101) rfl)))))))) rfl), ini_14, by decide +kernel, by decide +kernel⟩
set_option maxRecDepth 100000 in
theorem mi_282 : Jvm.Cond.instanceMethod pm_282.2.1 ∈ gtb ∧ Jvm.Cond.selects pm_282.2.1.cls pm_282.2.1 pm_282.2.1 ∈ gtb := ⟨(gw (List.mem_append_right _ (List.mem_append_right _ (List.mem_append_right _ (List.mem_append_right _ (List.mem_append_right _ (List.mem_append_right _ (List.mem_append_right _ (List.mem_of_getElem? (l := tables_1_7) (i := 99) rfl)))))))) rfl), (gw (List.mem_append_right _ (List.mem_append_right _ (List.mem_append_right _ (List.mem_append_right _ (List.mem_append_right _ (List.mem_append_right _ (List.mem_append_right _ (List.mem_of_getElem? (l := tables_1_7) (i := 100) rfl)))))))) rfl)⟩
set_option maxRecDepth 100000 in
theorem ml_361 : MPr [15, 214, 1, 282, 3, 1, 9] := ⟨"OneAtATimeLaw", pm_282, ("OneAtATimeModel", kT9, 29), rfl, rfl, rfl, rfl, (gw (List.mem_append_right _ (List.mem_append_right _ (List.mem_append_right _ (List.mem_append_right _ (List.mem_append_right _ (List.mem_append_right _ (List.mem_append_right _ (List.mem_of_getElem? (l := tables_1_7) (i := 98) rfl)))))))) rfl), mi_282, mf_282, rfl, Nat.le_of_ble_eq_true rfl⟩
set_option maxRecDepth 100000 in
theorem mf_174 : MFr pm_174 1 := ⟨(gw (List.mem_append_right _ (List.mem_append_right _ (List.mem_append_right _ (List.mem_append_right _ (List.mem_append_right _ (List.mem_append_left _ (List.mem_of_getElem? (l := tables_1_5) (i := 47) rfl))))))) rfl), ini_0, by decide +kernel, by decide +kernel⟩
set_option maxRecDepth 100000 in
theorem mi_174 : Jvm.Cond.instanceMethod pm_174.2.1 ∈ gtb ∧ Jvm.Cond.selects pm_174.2.1.cls pm_174.2.1 pm_174.2.1 ∈ gtb := ⟨(gw (List.mem_append_right _ (List.mem_append_right _ (List.mem_append_right _ (List.mem_append_right _ (List.mem_append_right _ (List.mem_append_left _ (List.mem_of_getElem? (l := tables_1_5) (i := 45) rfl))))))) rfl), (gw (List.mem_append_right _ (List.mem_append_right _ (List.mem_append_right _ (List.mem_append_right _ (List.mem_append_right _ (List.mem_append_left _ (List.mem_of_getElem? (l := tables_1_5) (i := 46) rfl))))))) rfl)⟩
set_option maxRecDepth 100000 in
theorem ml_362 : MPr [15, 215, 1, 174, 2, 1, 8] := ⟨"OneAtATimeLaw", pm_174, ("OneAtATime", kT8, 9), rfl, rfl, rfl, rfl, (gw (List.mem_append_right _ (List.mem_append_right _ (List.mem_append_right _ (List.mem_append_right _ (List.mem_append_right _ (List.mem_append_left _ (List.mem_of_getElem? (l := tables_1_5) (i := 44) rfl))))))) rfl), mi_174, mf_174, rfl, Nat.le_of_ble_eq_true rfl⟩
set_option maxRecDepth 100000 in
theorem mf_285 : MFr pm_285 1 := ⟨(gw (List.mem_append_right _ (List.mem_append_right _ (List.mem_append_right _ (List.mem_append_right _ (List.mem_append_right _ (List.mem_append_right _ (List.mem_append_right _ (List.mem_of_getElem? (l := tables_1_7) (i := 119) rfl)))))))) rfl), ini_14, by decide +kernel, by decide +kernel⟩
set_option maxRecDepth 100000 in
theorem mi_285 : Jvm.Cond.instanceMethod pm_285.2.1 ∈ gtb ∧ Jvm.Cond.selects pm_285.2.1.cls pm_285.2.1 pm_285.2.1 ∈ gtb := ⟨(gw (List.mem_append_right _ (List.mem_append_right _ (List.mem_append_right _ (List.mem_append_right _ (List.mem_append_right _ (List.mem_append_right _ (List.mem_append_right _ (List.mem_of_getElem? (l := tables_1_7) (i := 117) rfl)))))))) rfl), (gw (List.mem_append_right _ (List.mem_append_right _ (List.mem_append_right _ (List.mem_append_right _ (List.mem_append_right _ (List.mem_append_right _ (List.mem_append_right _ (List.mem_of_getElem? (l := tables_1_7) (i := 118) rfl)))))))) rfl)⟩
set_option maxRecDepth 100000 in
theorem ml_363 : MPr [15, 218, 1, 285, 2, 1, 9] := ⟨"OneAtATimeLaw", pm_285, ("OneAtATimeModel", kT9, 29), rfl, rfl, rfl, rfl, (gw (List.mem_append_right _ (List.mem_append_right _ (List.mem_append_right _ (List.mem_append_right _ (List.mem_append_right _ (List.mem_append_right _ (List.mem_append_right _ (List.mem_of_getElem? (l := tables_1_7) (i := 116) rfl)))))))) rfl), mi_285, mf_285, rfl, Nat.le_of_ble_eq_true rfl⟩
set_option maxRecDepth 100000 in
theorem mt_ok : ∀ e ∈ mtL, MPr e := List.forall_mem_cons.mpr ⟨ml_0, List.forall_mem_cons.mpr ⟨ml_1, List.forall_mem_cons.mpr ⟨ml_2, List.forall_mem_cons.mpr ⟨ml_3, List.forall_mem_cons.mpr ⟨ml_4, List.forall_mem_cons.mpr ⟨ml_5, List.forall_mem_cons.mpr ⟨ml_6, List.forall_mem_cons.mpr ⟨ml_7, List.forall_mem_cons.mpr ⟨ml_8, List.forall_mem_cons.mpr ⟨ml_9, List.forall_mem_cons.mpr ⟨ml_10, List.forall_mem_cons.mpr ⟨ml_11, List.forall_mem_cons.mpr ⟨ml_12, List.forall_mem_cons.mpr ⟨ml_13, List.forall_mem_cons.mpr ⟨ml_14, List.forall_mem_cons.mpr ⟨ml_15, List.forall_mem_cons.mpr ⟨ml_16, List.forall_mem_cons.mpr ⟨ml_17, List.forall_mem_cons.mpr ⟨ml_18, List.forall_mem_cons.mpr ⟨ml_19, List.forall_mem_cons.mpr ⟨ml_20, List.forall_mem_cons.mpr ⟨ml_21, List.forall_mem_cons.mpr ⟨ml_22, List.forall_mem_cons.mpr ⟨ml_23, List.forall_mem_cons.mpr ⟨ml_24, List.forall_mem_cons.mpr ⟨ml_25, List.forall_mem_cons.mpr ⟨ml_26, List.forall_mem_cons.mpr ⟨ml_27, List.forall_mem_cons.mpr ⟨ml_28, List.forall_mem_cons.mpr ⟨ml_29, List.forall_mem_cons.mpr ⟨ml_30, List.forall_mem_cons.mpr ⟨ml_31, List.forall_mem_cons.mpr ⟨ml_32, List.forall_mem_cons.mpr ⟨ml_33, List.forall_mem_cons.mpr ⟨ml_34, List.forall_mem_cons.mpr ⟨ml_35, List.forall_mem_cons.mpr ⟨ml_36, List.forall_mem_cons.mpr ⟨ml_37, List.forall_mem_cons.mpr ⟨ml_38, List.forall_mem_cons.mpr ⟨ml_39, List.forall_mem_cons.mpr ⟨ml_40, List.forall_mem_cons.mpr ⟨ml_41, List.forall_mem_cons.mpr ⟨ml_42, List.forall_mem_cons.mpr ⟨ml_43, List.forall_mem_cons.mpr ⟨ml_44, List.forall_mem_cons.mpr ⟨ml_45, List.forall_mem_cons.mpr ⟨ml_46, List.forall_mem_cons.mpr ⟨ml_47, List.forall_mem_cons.mpr ⟨ml_48, List.forall_mem_cons.mpr ⟨ml_49, List.forall_mem_cons.mpr ⟨ml_50, List.forall_mem_cons.mpr ⟨ml_51, List.forall_mem_cons.mpr ⟨ml_52, List.forall_mem_cons.mpr ⟨ml_53, List.forall_mem_cons.mpr ⟨ml_54, List.forall_mem_cons.mpr ⟨ml_55, List.forall_mem_cons.mpr ⟨ml_56, List.forall_mem_cons.mpr ⟨ml_57, List.forall_mem_cons.mpr ⟨ml_58, List.forall_mem_cons.mpr ⟨ml_59, List.forall_mem_cons.mpr ⟨ml_60, List.forall_mem_cons.mpr ⟨ml_61, List.forall_mem_cons.mpr ⟨ml_62, List.forall_mem_cons.mpr ⟨ml_63, List.forall_mem_cons.mpr ⟨ml_64, List.forall_mem_cons.mpr ⟨ml_65, List.forall_mem_cons.mpr ⟨ml_66, List.forall_mem_cons.mpr ⟨ml_67, List.forall_mem_cons.mpr ⟨ml_68, List.forall_mem_cons.mpr ⟨ml_69, List.forall_mem_cons.mpr ⟨ml_70, List.forall_mem_cons.mpr ⟨ml_71, List.forall_mem_cons.mpr ⟨ml_72, List.forall_mem_cons.mpr ⟨ml_73, List.forall_mem_cons.mpr ⟨ml_74, List.forall_mem_cons.mpr ⟨ml_75, List.forall_mem_cons.mpr ⟨ml_76, List.forall_mem_cons.mpr ⟨ml_77, List.forall_mem_cons.mpr ⟨ml_78, List.forall_mem_cons.mpr ⟨ml_79, List.forall_mem_cons.mpr ⟨ml_80, List.forall_mem_cons.mpr ⟨ml_81, List.forall_mem_cons.mpr ⟨ml_82, List.forall_mem_cons.mpr ⟨ml_83, List.forall_mem_cons.mpr ⟨ml_84, List.forall_mem_cons.mpr ⟨ml_85, List.forall_mem_cons.mpr ⟨ml_86, List.forall_mem_cons.mpr ⟨ml_87, List.forall_mem_cons.mpr ⟨ml_88, List.forall_mem_cons.mpr ⟨ml_89, List.forall_mem_cons.mpr ⟨ml_90, List.forall_mem_cons.mpr ⟨ml_91, List.forall_mem_cons.mpr ⟨ml_92, List.forall_mem_cons.mpr ⟨ml_93, List.forall_mem_cons.mpr ⟨ml_94, List.forall_mem_cons.mpr ⟨ml_95, List.forall_mem_cons.mpr ⟨ml_96, List.forall_mem_cons.mpr ⟨ml_97, List.forall_mem_cons.mpr ⟨ml_98, List.forall_mem_cons.mpr ⟨ml_99, List.forall_mem_cons.mpr ⟨ml_100, List.forall_mem_cons.mpr ⟨ml_101, List.forall_mem_cons.mpr ⟨ml_102, List.forall_mem_cons.mpr ⟨ml_103, List.forall_mem_cons.mpr ⟨ml_104, List.forall_mem_cons.mpr ⟨ml_105, List.forall_mem_cons.mpr ⟨ml_106, List.forall_mem_cons.mpr ⟨ml_107, List.forall_mem_cons.mpr ⟨ml_108, List.forall_mem_cons.mpr ⟨ml_109, List.forall_mem_cons.mpr ⟨ml_110, List.forall_mem_cons.mpr ⟨ml_111, List.forall_mem_cons.mpr ⟨ml_112, List.forall_mem_cons.mpr ⟨ml_113, List.forall_mem_cons.mpr ⟨ml_114, List.forall_mem_cons.mpr ⟨ml_115, List.forall_mem_cons.mpr ⟨ml_116, List.forall_mem_cons.mpr ⟨ml_117, List.forall_mem_cons.mpr ⟨ml_118, List.forall_mem_cons.mpr ⟨ml_119, List.forall_mem_cons.mpr ⟨ml_120, List.forall_mem_cons.mpr ⟨ml_121, List.forall_mem_cons.mpr ⟨ml_122, List.forall_mem_cons.mpr ⟨ml_123, List.forall_mem_cons.mpr ⟨ml_124, List.forall_mem_cons.mpr ⟨ml_125, List.forall_mem_cons.mpr ⟨ml_126, List.forall_mem_cons.mpr ⟨ml_127, List.forall_mem_cons.mpr ⟨ml_128, List.forall_mem_cons.mpr ⟨ml_129, List.forall_mem_cons.mpr ⟨ml_130, List.forall_mem_cons.mpr ⟨ml_131, List.forall_mem_cons.mpr ⟨ml_132, List.forall_mem_cons.mpr ⟨ml_133, List.forall_mem_cons.mpr ⟨ml_134, List.forall_mem_cons.mpr ⟨ml_135, List.forall_mem_cons.mpr ⟨ml_136, List.forall_mem_cons.mpr ⟨ml_137, List.forall_mem_cons.mpr ⟨ml_138, List.forall_mem_cons.mpr ⟨ml_139, List.forall_mem_cons.mpr ⟨ml_140, List.forall_mem_cons.mpr ⟨ml_141, List.forall_mem_cons.mpr ⟨ml_142, List.forall_mem_cons.mpr ⟨ml_143, List.forall_mem_cons.mpr ⟨ml_144, List.forall_mem_cons.mpr ⟨ml_145, List.forall_mem_cons.mpr ⟨ml_146, List.forall_mem_cons.mpr ⟨ml_147, List.forall_mem_cons.mpr ⟨ml_148, List.forall_mem_cons.mpr ⟨ml_149, List.forall_mem_cons.mpr ⟨ml_150, List.forall_mem_cons.mpr ⟨ml_151, List.forall_mem_cons.mpr ⟨ml_152, List.forall_mem_cons.mpr ⟨ml_153, List.forall_mem_cons.mpr ⟨ml_154, List.forall_mem_cons.mpr ⟨ml_155, List.forall_mem_cons.mpr ⟨ml_156, List.forall_mem_cons.mpr ⟨ml_157, List.forall_mem_cons.mpr ⟨ml_158, List.forall_mem_cons.mpr ⟨ml_159, List.forall_mem_cons.mpr ⟨ml_160, List.forall_mem_cons.mpr ⟨ml_161, List.forall_mem_cons.mpr ⟨ml_162, List.forall_mem_cons.mpr ⟨ml_163, List.forall_mem_cons.mpr ⟨ml_164, List.forall_mem_cons.mpr ⟨ml_165, List.forall_mem_cons.mpr ⟨ml_166, List.forall_mem_cons.mpr ⟨ml_167, List.forall_mem_cons.mpr ⟨ml_168, List.forall_mem_cons.mpr ⟨ml_169, List.forall_mem_cons.mpr ⟨ml_170, List.forall_mem_cons.mpr ⟨ml_171, List.forall_mem_cons.mpr ⟨ml_172, List.forall_mem_cons.mpr ⟨ml_173, List.forall_mem_cons.mpr ⟨ml_174, List.forall_mem_cons.mpr ⟨ml_175, List.forall_mem_cons.mpr ⟨ml_176, List.forall_mem_cons.mpr ⟨ml_177, List.forall_mem_cons.mpr ⟨ml_178, List.forall_mem_cons.mpr ⟨ml_179, List.forall_mem_cons.mpr ⟨ml_180, List.forall_mem_cons.mpr ⟨ml_181, List.forall_mem_cons.mpr ⟨ml_182, List.forall_mem_cons.mpr ⟨ml_183, List.forall_mem_cons.mpr ⟨ml_184, List.forall_mem_cons.mpr ⟨ml_185, List.forall_mem_cons.mpr ⟨ml_186, List.forall_mem_cons.mpr ⟨ml_187, List.forall_mem_cons.mpr ⟨ml_188, List.forall_mem_cons.mpr ⟨ml_189, List.forall_mem_cons.mpr ⟨ml_190, List.forall_mem_cons.mpr ⟨ml_191, List.forall_mem_cons.mpr ⟨ml_192, List.forall_mem_cons.mpr ⟨ml_193, List.forall_mem_cons.mpr ⟨ml_194, List.forall_mem_cons.mpr ⟨ml_195, List.forall_mem_cons.mpr ⟨ml_196, List.forall_mem_cons.mpr ⟨ml_197, List.forall_mem_cons.mpr ⟨ml_198, List.forall_mem_cons.mpr ⟨ml_199, List.forall_mem_cons.mpr ⟨ml_200, List.forall_mem_cons.mpr ⟨ml_201, List.forall_mem_cons.mpr ⟨ml_202, List.forall_mem_cons.mpr ⟨ml_203, List.forall_mem_cons.mpr ⟨ml_204, List.forall_mem_cons.mpr ⟨ml_205, List.forall_mem_cons.mpr ⟨ml_206, List.forall_mem_cons.mpr ⟨ml_207, List.forall_mem_cons.mpr ⟨ml_208, List.forall_mem_cons.mpr ⟨ml_209, List.forall_mem_cons.mpr ⟨ml_210, List.forall_mem_cons.mpr ⟨ml_211, List.forall_mem_cons.mpr ⟨ml_212, List.forall_mem_cons.mpr ⟨ml_213, List.forall_mem_cons.mpr ⟨ml_214, List.forall_mem_cons.mpr ⟨ml_215, List.forall_mem_cons.mpr ⟨ml_216, List.forall_mem_cons.mpr ⟨ml_217, List.forall_mem_cons.mpr ⟨ml_218, List.forall_mem_cons.mpr ⟨ml_219, List.forall_mem_cons.mpr ⟨ml_220, List.forall_mem_cons.mpr ⟨ml_221, List.forall_mem_cons.mpr ⟨ml_222, List.forall_mem_cons.mpr ⟨ml_223, List.forall_mem_cons.mpr ⟨ml_224, List.forall_mem_cons.mpr ⟨ml_225, List.forall_mem_cons.mpr ⟨ml_226, List.forall_mem_cons.mpr ⟨ml_227, List.forall_mem_cons.mpr ⟨ml_228, List.forall_mem_cons.mpr ⟨ml_229, List.forall_mem_cons.mpr ⟨ml_230, List.forall_mem_cons.mpr ⟨ml_231, List.forall_mem_cons.mpr ⟨ml_232, List.forall_mem_cons.mpr ⟨ml_233, List.forall_mem_cons.mpr ⟨ml_234, List.forall_mem_cons.mpr ⟨ml_235, List.forall_mem_cons.mpr ⟨ml_236, List.forall_mem_cons.mpr ⟨ml_237, List.forall_mem_cons.mpr ⟨ml_238, List.forall_mem_cons.mpr ⟨ml_239, List.forall_mem_cons.mpr ⟨ml_240, List.forall_mem_cons.mpr ⟨ml_241, List.forall_mem_cons.mpr ⟨ml_242, List.forall_mem_cons.mpr ⟨ml_243, List.forall_mem_cons.mpr ⟨ml_244, List.forall_mem_cons.mpr ⟨ml_245, List.forall_mem_cons.mpr ⟨ml_246, List.forall_mem_cons.mpr ⟨ml_247, List.forall_mem_cons.mpr ⟨ml_248, List.forall_mem_cons.mpr ⟨ml_249, List.forall_mem_cons.mpr ⟨ml_250, List.forall_mem_cons.mpr ⟨ml_251, List.forall_mem_cons.mpr ⟨ml_252, List.forall_mem_cons.mpr ⟨ml_253, List.forall_mem_cons.mpr ⟨ml_254, List.forall_mem_cons.mpr ⟨ml_255, List.forall_mem_cons.mpr ⟨ml_256, List.forall_mem_cons.mpr ⟨ml_257, List.forall_mem_cons.mpr ⟨ml_258, List.forall_mem_cons.mpr ⟨ml_259, List.forall_mem_cons.mpr ⟨ml_260, List.forall_mem_cons.mpr ⟨ml_261, List.forall_mem_cons.mpr ⟨ml_262, List.forall_mem_cons.mpr ⟨ml_263, List.forall_mem_cons.mpr ⟨ml_264, List.forall_mem_cons.mpr ⟨ml_265, List.forall_mem_cons.mpr ⟨ml_266, List.forall_mem_cons.mpr ⟨ml_267, List.forall_mem_cons.mpr ⟨ml_268, List.forall_mem_cons.mpr ⟨ml_269, List.forall_mem_cons.mpr ⟨ml_270, List.forall_mem_cons.mpr ⟨ml_271, List.forall_mem_cons.mpr ⟨ml_272, List.forall_mem_cons.mpr ⟨ml_273, List.forall_mem_cons.mpr ⟨ml_274, List.forall_mem_cons.mpr ⟨ml_275, List.forall_mem_cons.mpr ⟨ml_276, List.forall_mem_cons.mpr ⟨ml_277, List.forall_mem_cons.mpr ⟨ml_278, List.forall_mem_cons.mpr ⟨ml_279, List.forall_mem_cons.mpr ⟨ml_280, List.forall_mem_cons.mpr ⟨ml_281, List.forall_mem_cons.mpr ⟨ml_282, List.forall_mem_cons.mpr ⟨ml_283, List.forall_mem_cons.mpr ⟨ml_284, List.forall_mem_cons.mpr ⟨ml_285, List.forall_mem_cons.mpr ⟨ml_286, List.forall_mem_cons.mpr ⟨ml_287, List.forall_mem_cons.mpr ⟨ml_288, List.forall_mem_cons.mpr ⟨ml_289, List.forall_mem_cons.mpr ⟨ml_290, List.forall_mem_cons.mpr ⟨ml_291, List.forall_mem_cons.mpr ⟨ml_292, List.forall_mem_cons.mpr ⟨ml_293, List.forall_mem_cons.mpr ⟨ml_294, List.forall_mem_cons.mpr ⟨ml_295, List.forall_mem_cons.mpr ⟨ml_296, List.forall_mem_cons.mpr ⟨ml_297, List.forall_mem_cons.mpr ⟨ml_298, List.forall_mem_cons.mpr ⟨ml_299, List.forall_mem_cons.mpr ⟨ml_300, List.forall_mem_cons.mpr ⟨ml_301, List.forall_mem_cons.mpr ⟨ml_302, List.forall_mem_cons.mpr ⟨ml_303, List.forall_mem_cons.mpr ⟨ml_304, List.forall_mem_cons.mpr ⟨ml_305, List.forall_mem_cons.mpr ⟨ml_306, List.forall_mem_cons.mpr ⟨ml_307, List.forall_mem_cons.mpr ⟨ml_308, List.forall_mem_cons.mpr ⟨ml_309, List.forall_mem_cons.mpr ⟨ml_310, List.forall_mem_cons.mpr ⟨ml_311, List.forall_mem_cons.mpr ⟨ml_312, List.forall_mem_cons.mpr ⟨ml_313, List.forall_mem_cons.mpr ⟨ml_314, List.forall_mem_cons.mpr ⟨ml_315, List.forall_mem_cons.mpr ⟨ml_316, List.forall_mem_cons.mpr ⟨ml_317, List.forall_mem_cons.mpr ⟨ml_318, List.forall_mem_cons.mpr ⟨ml_319, List.forall_mem_cons.mpr ⟨ml_320, List.forall_mem_cons.mpr ⟨ml_321, List.forall_mem_cons.mpr ⟨ml_322, List.forall_mem_cons.mpr ⟨ml_323, List.forall_mem_cons.mpr ⟨ml_324, List.forall_mem_cons.mpr ⟨ml_325, List.forall_mem_cons.mpr ⟨ml_326, List.forall_mem_cons.mpr ⟨ml_327, List.forall_mem_cons.mpr ⟨ml_328, List.forall_mem_cons.mpr ⟨ml_329, List.forall_mem_cons.mpr ⟨ml_330, List.forall_mem_cons.mpr ⟨ml_331, List.forall_mem_cons.mpr ⟨ml_332, List.forall_mem_cons.mpr ⟨ml_333, List.forall_mem_cons.mpr ⟨ml_334, List.forall_mem_cons.mpr ⟨ml_335, List.forall_mem_cons.mpr ⟨ml_336, List.forall_mem_cons.mpr ⟨ml_337, List.forall_mem_cons.mpr ⟨ml_338, List.forall_mem_cons.mpr ⟨ml_339, List.forall_mem_cons.mpr ⟨ml_340, List.forall_mem_cons.mpr ⟨ml_341, List.forall_mem_cons.mpr ⟨ml_342, List.forall_mem_cons.mpr ⟨ml_343, List.forall_mem_cons.mpr ⟨ml_344, List.forall_mem_cons.mpr ⟨ml_345, List.forall_mem_cons.mpr ⟨ml_346, List.forall_mem_cons.mpr ⟨ml_347, List.forall_mem_cons.mpr ⟨ml_348, List.forall_mem_cons.mpr ⟨ml_349, List.forall_mem_cons.mpr ⟨ml_350, List.forall_mem_cons.mpr ⟨ml_351, List.forall_mem_cons.mpr ⟨ml_352, List.forall_mem_cons.mpr ⟨ml_353, List.forall_mem_cons.mpr ⟨ml_354, List.forall_mem_cons.mpr ⟨ml_355, List.forall_mem_cons.mpr ⟨ml_356, List.forall_mem_cons.mpr ⟨ml_357, List.forall_mem_cons.mpr ⟨ml_358, List.forall_mem_cons.mpr ⟨ml_359, List.forall_mem_cons.mpr ⟨ml_360, List.forall_mem_cons.mpr ⟨ml_361, List.forall_mem_cons.mpr ⟨ml_362, List.forall_mem_cons.mpr ⟨ml_363, fun _ h => absurd h List.not_mem_nil⟩⟩⟩⟩⟩⟩⟩⟩⟩⟩⟩⟩⟩⟩⟩⟩⟩⟩⟩⟩⟩⟩⟩⟩⟩⟩⟩⟩⟩⟩⟩⟩⟩⟩⟩⟩⟩⟩⟩⟩⟩⟩⟩⟩⟩⟩⟩⟩⟩⟩⟩⟩⟩⟩⟩⟩⟩⟩⟩⟩⟩⟩⟩⟩⟩⟩⟩⟩⟩⟩⟩⟩⟩⟩⟩⟩⟩⟩⟩⟩⟩⟩⟩⟩⟩⟩⟩⟩⟩⟩⟩⟩⟩⟩⟩⟩⟩⟩⟩⟩⟩⟩⟩⟩⟩⟩⟩⟩⟩⟩⟩⟩⟩⟩⟩⟩⟩⟩⟩⟩⟩⟩⟩⟩⟩⟩⟩⟩⟩⟩⟩⟩⟩⟩⟩⟩⟩⟩⟩⟩⟩⟩⟩⟩⟩⟩⟩⟩⟩⟩⟩⟩⟩⟩⟩⟩⟩⟩⟩⟩⟩⟩⟩⟩⟩⟩⟩⟩⟩⟩⟩⟩⟩⟩⟩⟩⟩⟩⟩⟩⟩⟩⟩⟩⟩⟩⟩⟩⟩⟩⟩⟩⟩⟩⟩⟩⟩⟩⟩⟩⟩⟩⟩⟩⟩⟩⟩⟩⟩⟩⟩⟩⟩⟩⟩⟩⟩⟩⟩⟩⟩⟩⟩⟩⟩⟩⟩⟩⟩⟩⟩⟩⟩⟩⟩⟩⟩⟩⟩⟩⟩⟩⟩⟩⟩⟩⟩⟩⟩⟩⟩⟩⟩⟩⟩⟩⟩⟩⟩⟩⟩⟩⟩⟩⟩⟩⟩⟩⟩⟩⟩⟩⟩⟩⟩⟩⟩⟩⟩⟩⟩⟩⟩⟩⟩⟩⟩⟩⟩⟩⟩⟩⟩⟩⟩⟩⟩⟩⟩⟩⟩⟩⟩⟩⟩⟩⟩⟩⟩⟩⟩⟩⟩⟩⟩⟩⟩⟩⟩⟩⟩⟩⟩⟩⟩⟩⟩⟩⟩⟩⟩⟩⟩⟩⟩⟩⟩⟩⟩⟩⟩⟩⟩⟩⟩⟩⟩⟩⟩⟩⟩⟩⟩⟩⟩⟩⟩⟩⟩⟩⟩⟩⟩⟩
