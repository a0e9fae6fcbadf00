/-! THE START: literals, classes -/
def litT : List (String × Nat × List Nat) := [("OneAtATime$Bytes", 52, [32, 108, 101, 118, 101, 108, 115, 32]), ("OneAtATime$Bytes", 62, [32, 115, 116, 97, 114, 116, 32]), ("OneAtATime$Bytes", 57, [32, 116, 111, 32]), ("OneAtATimeModel", 355, [58]), ("OneAtATimeModel", 357, [59]), ("OneAtATime$Reader", 54, [98, 105, 116, 115]), ("OneAtATime$Bytes", 38, [98, 105, 116, 115, 32]), ("OneAtATime$Reader", 64, [108, 101, 118, 101, 108, 115]), ("OneAtATime$Reader", 71, [115, 116, 97, 114, 116]), ("OneAtATime$Reader", 70, [116, 111])]
abbrev litO (i : Nat) : String := (litT.getD i ("", 0, [])).1
abbrev litK (i : Nat) : Nat := (litT.getD i ("", 0, [])).2.1
abbrev litX (i : Nat) : List Nat := (litT.getD i ("", 0, [])).2.2
abbrev flG : List Cond := flatC (Jvm.Cond.and given_1 narrow_1)
abbrev litM (i : Nat) : Term := .string (litO i) (litK i)
theorem lit_x : ∀ i, i < 10 → txC[i]? = some (litX i) := by decide +kernel
theorem lit_b : ∀ i, i < 10 → (litX i).length < 100 ∧ ∀ x ∈ litX i, x < 128 := by decide +kernel
theorem lit_1 : ∀ i, i < 10 → Cond.exactly (litM i) "java/lang/String" ∈ flG := by decide +kernel
theorem lit_2 : ∀ i, i < 10 → Cond.eq (.field (litM i) "java/lang/String" "coder" "B") (.int 0) ∈ flG := by decide +kernel
theorem lit_3 : ∀ i, i < 10 → Cond.arrayOf (.field (litM i) "java/lang/String" "value" "[B") .byte ∈ flG := by decide +kernel
theorem lit_4 : ∀ i, i < 10 → Cond.eq (.length (.field (litM i) "java/lang/String" "value" "[B")) (.int (Int32.ofNat (litX i).length)) ∈ flG := by decide +kernel
theorem lit_5 : ∀ i, i < 10 → ∀ j, j < (litX i).length → Cond.eq (.elem (.field (litM i) "java/lang/String" "value" "[B") (.int (Int32.ofNat j))) (.int (Int32.ofInt (((litX i).getD j 0 : Nat) : Int))) ∈ flG := by decide +kernel
theorem lit_6 : ∀ e ∈ scL, (2 ≤ e.2.2 ∧ e.2.2 < 12) ∧ ((ownL.getD e.1 "" = litO (e.2.2 - 2) ∧ e.2.1 = litK (e.2.2 - 2)) ∨ Cond.eq (litM (e.2.2 - 2)) (.string (ownL.getD e.1 "") e.2.1) ∈ flG) := by decide +kernel
theorem lit_7 : ∀ e ∈ scL, Cond.stringRef (ownL.getD e.1 "") e.2.1 (strL.getD e.2.2 "") ∈ tables_1 := by decide +kernel
theorem lit_8 : Cond.eq (.static "java/lang/String" "COMPACT_STRINGS" "Z") (.int 1) ∈ flG ∧ Cond.isRef (.static "jdk/internal/util/Preconditions" "SIOOBE_FORMATTER" "Ljava/util/function/BiFunction;") ∈ flG := by decide +kernel
theorem lit_9 : Cond.laysStatic "java/lang/String" "COMPACT_STRINGS" "Z" ∈ tables_1 ∧ Cond.laysStatic "jdk/internal/util/Preconditions" "SIOOBE_FORMATTER" "Ljava/util/function/BiFunction;" ∈ tables_1 ∧ Cond.initialized "java/lang/String" ∈ tables_1 ∧ Cond.initialized "jdk/internal/util/Preconditions" ∈ tables_1 ∧ Cond.arrayOver (.object "OneAtATime$BitList") ∈ tables_1 := by decide +kernel
theorem tb_lw {w : Cond} (h : w ∈ tables_1) : w ∈ lw_tbl := List.mem_append_right _ h
theorem lits {args : Array Value} {s : State} (hs : ∀ c ∈ flG, c.before args s = true) {A : Nat → Prop} (hA : ∀ a : Nat, a < s.heap.size → ¬ A a) : ∃ ad : Nat → Nat × Nat, ∀ i, i < 10 → (litM i).eval args s none [] s = some (.ref (ad i).1) ∧ va_O "java/lang/String" (ad i).1 A s s.heap ∧ va_OF "java/lang/String" "coder" "B" (.int 0) (ad i).1 A s s.heap ∧ va_OF "java/lang/String" "value" "[B" (.ref (ad i).2) (ad i).1 A s s.heap ∧ va_T .byte (ad i).2 (litX i).length (fun j => .int (Int32.ofInt (((litX i).getD j 0 : Nat) : Int))) A s s.heap := by
  have h0 : ∀ i : Nat, ∃ q : Nat × Nat, i < 10 → (litM i).eval args s none [] s = some (.ref q.1) ∧ va_O "java/lang/String" q.1 A s s.heap ∧ va_OF "java/lang/String" "coder" "B" (.int 0) q.1 A s s.heap ∧ va_OF "java/lang/String" "value" "[B" (.ref q.2) q.1 A s s.heap ∧ va_T .byte q.2 (litX i).length (fun j => .int (Int32.ofInt (((litX i).getD j 0 : Nat) : Int))) A s s.heap := by
    intro i
    by_cases hi : i < 10
    · obtain ⟨a, -, -, -, q1, -⟩ := Cond.exactly_spec (args := args) (first := s) (o := none) (s := s) (idx := []) (t := litM i) (cls := "java/lang/String") (hs _ (lit_1 i hi))
      obtain ⟨t, ht, hT⟩ := va_Tof (f := fun j => .int (Int32.ofInt (((litX i).getD j 0 : Nat) : Int))) (A := A) (N := (litX i).length) (by have := (lit_b i hi).1; omega) (hs _ (lit_3 i hi)) (va_eqt (hs _ (lit_4 i hi))) (fun j hj => va_eqt (hs _ (lit_5 i hi j hj))) hA
      exact ⟨(a, t), fun _ => ⟨q1, va_Oof (hs _ (lit_1 i hi)) q1 hA, vk_OFof q1 (va_eqt (hs _ (lit_2 i hi))) hA, vk_OFof q1 ht hA, hT⟩⟩
    · exact ⟨(0, 0), fun h => absurd h hi⟩
  exact Classical.axiomOfChoice h0
/-- what lies below 32 at the start -/
def stX (L : Nat) (xs : Nat → Int32) : HP := fun a j => if a = 1 then (if j = -1 then 40 else if j = -2 then (L : Int) else (xs j.toNat).toInt) else if 2 ≤ a ∧ a < 12 then (if j = -1 then 30 else if j = -2 then (((litX (a - 2).toNat).length : Nat) : Int) else (((litX (a - 2).toNat).getD j.toNat 0 : Nat) : Int)) else if a = -1 then (if j = 0 then 32 else 0) else -5
theorem stX_1 (L : Nat) (xs : Nat → Int32) : stX L xs 1 (-1) = 40 ∧ stX L xs 1 (-2) = (L : Int) ∧ ∀ j : Nat, stX L xs 1 j = (xs j).toInt := by
  refine ⟨rfl, rfl, fun j => ?_⟩
  show (if (j : Int) = -1 then (40 : Int) else if (j : Int) = -2 then (L : Int) else (xs (j : Int).toNat).toInt) = _
  rw [if_neg (by omega), if_neg (by omega)]
  rfl
theorem stX_s (L : Nat) (xs : Nat → Int32) {a : Int} (h1 : 2 ≤ a) (h2 : a < 12) : stX L xs a (-1) = 30 ∧ stX L xs a (-2) = (((litX (a - 2).toNat).length : Nat) : Int) ∧ ∀ j : Int, 0 ≤ j → stX L xs a j = (((litX (a - 2).toNat).getD j.toNat 0 : Nat) : Int) := by
  have e : ∀ j, stX L xs a j = if j = -1 then 30 else if j = -2 then (((litX (a - 2).toNat).length : Nat) : Int) else (((litX (a - 2).toNat).getD j.toNat 0 : Nat) : Int) := fun j => by
    unfold stX
    rw [if_neg (by omega), if_pos ⟨h1, h2⟩]
  refine ⟨by rw [e, if_pos rfl], by rw [e, if_neg (by decide), if_pos rfl], fun j hj => by rw [e, if_neg (by omega), if_neg (by omega)]⟩
theorem stX_o (L : Nat) (xs : Nat → Int32) {a : Int} (h1 : 12 ≤ a) (h2 : a < 32) (j : Int) : stX L xs a j = -5 := by
  unfold stX
  rw [if_neg (by omega), if_neg (by omega), if_neg (by omega)]
theorem stX_t (L : Nat) (xs : Nat → Int32) : Txt (stX L xs) := fun i t ht => by
  have hi := txC_10 ht
  have e := lit_x i hi
  rw [ht] at e
  have e := Option.some.inj e
  obtain ⟨q1, q2, q3⟩ := stX_s L xs (a := 2 + (i : Int)) (by omega) (by omega)
  rw [show (2 + (i : Int) - 2).toNat = i by omega] at q2 q3
  refine ⟨q1, by rw [q2, e], fun j x hx => ?_⟩
  rw [q3 j (by omega), ← e]
  show ((t.getD j 0 : Nat) : Int) = x
  rw [List.getD_eq_getElem?_getD, hx]
  rfl
