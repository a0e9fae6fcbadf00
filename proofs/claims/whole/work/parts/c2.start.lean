/-! THE START: the world of the small machine -/
theorem cp_get {c : Nat} {q : vw_C} (h : cls0[c]? = some q) : (∀ w ∈ u_ws q.1 q.2.1 q.2.2, w ∈ gtb) ∧ Jvm.Cond.instantiable q.1 q.2.2 ∈ gtb := by
  have hc : c < 10 := (List.getElem?_eq_some_iff.mp h).1
  have k : c = 0 ∨ c = 1 ∨ c = 2 ∨ c = 3 ∨ c = 4 ∨ c = 5 ∨ c = 6 ∨ c = 7 ∨ c = 8 ∨ c = 9 := by omega
  rcases k with k | k | k | k | k | k | k | k | k | k
  · subst k; cases h; exact ⟨cp_0.1, cp_0.2.2.1⟩
  · subst k; cases h; exact ⟨cp_1.1, cp_1.2.2.1⟩
  · subst k; cases h; exact ⟨cp_2.1, cp_2.2.2.1⟩
  · subst k; cases h; exact ⟨cp_3.1, cp_3.2.2.1⟩
  · subst k; cases h; exact ⟨cp_4.1, cp_4.2.2.1⟩
  · subst k; cases h; exact ⟨cp_5.1, cp_5.2.2.1⟩
  · subst k; cases h; exact ⟨cp_6.1, cp_6.2.2.1⟩
  · subst k; cases h; exact ⟨cp_7.1, cp_7.2.2.1⟩
  · subst k; cases h; exact ⟨cp_8.1, cp_8.2.2.1⟩
  · subst k; cases h; exact ⟨cp_9.1, cp_9.2.2.1⟩
theorem arr_of {args : Array Value} {s : State} {ty : FieldType} (h : (Cond.arrayClass ty).before args s = true) : ∃ cA : ClassId, ArrOfT s cA ty ∧ s.vm.findClass ("[" ++ ty.toString) = some cA := by
  obtain ⟨cA, kA, comp, h1, h2, h3⟩ := Cond.arrayClass_spec h
  exact ⟨cA, fun n z => ⟨fun k h => (by cases h), kA, h2, comp, h3⟩, h1⟩
theorem arr_ob {args : Array Value} {s : State} {C : String} (h : (Cond.arrayOver (.object C)).before args s = true) : ∃ cA : ClassId, ArrOfT s cA (.object C) ∧ va_RA s cA (.object C) := by
  obtain ⟨comp, cA, kA, h1, h2, h3, h4, h5⟩ := Cond.arrayOver_spec h
  exact ⟨cA, fun n z => ⟨fun k h => (by cases h), kA, h3, comp, h4⟩, kA, comp, h3, h4, h1, h5⟩
theorem start_w {s : State} {b L : Nat} {xs : Nat → Int32} (hts : ∀ w ∈ lw_tbl, w.before #[Value.ref b] s = true) (hX : va_X b L xs s s.heap) (hbl : b < s.heap.size) (hL : L ≤ 3072) (hgv : (Jvm.Cond.and given_1 narrow_1).before #[Value.ref b] s = true) : ∃ w : WD, wH w = s.heap ∧ wO w 1 = b ∧ wX w = stX L xs ∧ KB w s := by
  have hfl := flat_of_before _ hgv
  have hg : ∀ w ∈ gtb, w.before #[Value.ref b] s = true := fun w h => hts w (List.mem_filter.mp h).1
  have hA : ∀ a : Nat, a < s.heap.size → ¬ (fun q : Nat => s.heap.size ≤ q) a := fun a h q => absurd h (Nat.not_lt.mpr q)
  obtain ⟨ad, had⟩ := lits hfl hA
  have hk : ∀ k : Nat, ∃ z : ClassId × (Nat → Nat), ∀ q : vw_C, cls0[k]? = some q → u_Kn s q.1 q.2.1 q.2.2 z.1 z.2 := fun k => by
    cases e : cls0[k]? with
    | none => exact ⟨(0, fun _ => 0), fun q h => by cases h⟩
    | some q0 =>
      obtain ⟨c1, c2⟩ := cp_get e
      obtain ⟨cC, iS, h⟩ := u_known (n := q0.2.2) hg c1 (hg _ c2)
      exact ⟨(cC, iS), fun q h2 => by cases h2; exact h⟩
  obtain ⟨D, hD⟩ := Classical.axiomOfChoice hk
  obtain ⟨cI, i1, i2⟩ := arr_of (hg _ ac_int)
  obtain ⟨cB, j1, j2⟩ := arr_of (hg _ ac_byte)
  obtain ⟨cZ, k1, k2⟩ := arr_of (hg _ ac_boolean)
  obtain ⟨cO, l1, l2⟩ := arr_ob (hts _ (tb_lw lit_9.2.2.2.2))
  refine ⟨((fun k => (D k).1, fun k => (D k).2), fun k => if k = 0 then cI else if k = 1 then cB else if k = 2 then cZ else cO, s.heap, fun a => if a = 1 then b else (ad (a - 2).toNat).1, stX L xs), rfl, rfl, rfl, ⟨fun c q h => hD c q h, fun k q h => ?_⟩, ?_, hts _ (tb_lw lit_9.2.2.2.2)⟩
  · have hk4 : k < 4 := (List.getElem?_eq_some_iff.mp h).1
    have kk : k = 0 ∨ k = 1 ∨ k = 2 ∨ k = 3 := by omega
    rcases kk with e | e | e | e
    · subst e; cases h; exact ⟨i1, i2⟩
    · subst e; cases h; exact ⟨j1, j2⟩
    · subst e; cases h; exact ⟨k1, k2⟩
    · subst e; cases h; exact ⟨l1, l2⟩
  · obtain ⟨x1, x2, x3⟩ := stX_1 L xs
    refine ⟨⟨x1, ?_, ?_, hbl, xs, ?_, fun j _ => ?_⟩, fun i h1 h2 => ?_, fun i h1 h2 => stX_o L xs h1 h2 _, fun e he own tx h1 h2 => ?_, ?_, ?_⟩
    · show 0 ≤ stX L xs 1 (-2)
      omega
    · show stX L xs 1 (-2) < 2147483648
      omega
    · show va_X b (stX L xs 1 (-2)).toNat xs s s.heap
      rw [x2]
      exact hX
    · show xs j = Int32.ofInt (stX L xs 1 j)
      rw [x3, o32]
    · obtain ⟨q1, q2, q3⟩ := stX_s L xs h1 h2
      have hi : (i - 2).toNat < 10 := by omega
      obtain ⟨b1, b2⟩ := lit_b _ hi
      obtain ⟨g1, g2, g3, g4, g5⟩ := had _ hi
      refine ⟨q1, ?_, ?_, fun j hj1 hj2 => ?_, ?_⟩
      · show 0 ≤ stX L xs i (-2)
        rw [q2]; omega
      · show stX L xs i (-2) < 100
        rw [q2]; omega
      · show 0 ≤ stX L xs i j ∧ stX L xs i j < 128
        have hj2 : j < stX L xs i (-2) := hj2
        rw [q2] at hj2
        rw [q3 j hj1]
        have hm : (litX (i - 2).toNat).getD j.toNat 0 < 128 := by
          rw [List.getD_eq_getElem?_getD, List.getElem?_eq_getElem (show j.toNat < (litX (i - 2).toNat).length by omega)]
          exact b2 _ (List.getElem_mem _)
        omega
      · have ei : (if i = 1 then b else (ad (i - 2).toNat).1) = (ad (i - 2).toNat).1 := if_neg (by omega)
        have en : (stX L xs i (-2)).toNat = (litX (i - 2).toNat).length := by rw [q2]; rfl
        have ef : (fun j : Nat => Value.int (Int32.ofInt (stX L xs i j))) = fun j : Nat => Value.int (Int32.ofInt (((litX (i - 2).toNat).getD j 0 : Nat) : Int)) := by
          funext j
          rw [q3 j (by omega)]
          rfl
        show va_O "java/lang/String" (if i = 1 then b else (ad (i - 2).toNat).1) (fun q : Nat => s.heap.size ≤ q) s s.heap ∧ va_OF "java/lang/String" "coder" "B" (.int 0) (if i = 1 then b else (ad (i - 2).toNat).1) (fun q : Nat => s.heap.size ≤ q) s s.heap ∧ ∃ v : Nat, va_OF "java/lang/String" "value" "[B" (.ref v) (if i = 1 then b else (ad (i - 2).toNat).1) (fun q : Nat => s.heap.size ≤ q) s s.heap ∧ va_T .byte v (stX L xs i (-2)).toNat (fun j : Nat => Value.int (Int32.ofInt (stX L xs i j))) (fun q : Nat => s.heap.size ≤ q) s s.heap
        rw [ei, en, ef]
        exact ⟨g2, g3, _, g4, g5⟩
    · obtain ⟨⟨c1, c2⟩, c3⟩ := lit_6 e he
      have c4 := lit_7 e he
      have eo : ownL.getD e.1 "" = own := by rw [List.getD_eq_getElem?_getD, h1]; rfl
      have et : strL.getD e.2.2 "" = tx := by rw [List.getD_eq_getElem?_getD, h2]; rfl
      rw [eo] at c3 c4
      rw [et] at c4
      have g1 := (had (e.2.2 - 2) (by omega)).1
      have ev : (Term.string own e.2.1).eval #[Value.ref b] s none [] s = some (.ref (ad (e.2.2 - 2)).1) := by
        rcases c3 with ⟨d1, d2⟩ | c3
        · rw [d1, d2]; exact g1
        · exact va_eqR (hfl _ c3) g1
      have ea : (if (e.2.2 : Int) = 1 then b else (ad ((e.2.2 : Int) - 2).toNat).1) = (ad (e.2.2 - 2)).1 := by
        rw [if_neg (by omega), show ((e.2.2 : Int) - 2).toNat = e.2.2 - 2 by omega]
      show vk_R own e.2.1 tx (if (e.2.2 : Int) = 1 then b else (ad ((e.2.2 : Int) - 2).toNat).1) s
      rw [ea]
      exact vk_R.of (hts _ (tb_lw c4)) ev
    · exact va_Zof (hts _ (tb_lw lit_9.1)) (hts _ (tb_lw lit_9.2.2.1)) (va_eqt (hfl _ lit_8.1)) hA
    · rcases va_Zqof (A := fun q : Nat => s.heap.size ≤ q) (hts _ (tb_lw lit_9.2.1)) (hts _ (tb_lw lit_9.2.2.2.1)) (hfl _ lit_8.2) hA with h | ⟨t, h⟩
      · exact ⟨.null, Or.inl rfl, h⟩
      · exact ⟨.ref t, Or.inr ⟨t, rfl⟩, h⟩
