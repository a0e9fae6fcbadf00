/-! EXTEND: one cut, whole loops -/
theorem bv_64 {z : Int64} {n : Nat} (h : z.toBitVec.toNat = n) (hn : n < 9223372036854775808) : z.toInt = (n : Int) := by
  show z.toBitVec.toInt = _
  rw [BitVec.toInt_eq_toNat_of_lt (by omega), h]
theorem l_and1 (y : Int) : l_and y 1 = ((lu y % 2 : Nat) : Int) := by
  unfold l_and
  refine bv_64 ?_ (by omega)
  show ((Int64.ofInt y).toBitVec &&& (Int64.ofInt 1).toBitVec).toNat = _
  rw [BitVec.toNat_and]
  show lu y &&& (2 ^ 1 - 1) = _
  rw [Nat.and_two_pow_sub_one_eq_mod]
def ctB (c : Int) (x : Nat) : Bool := decide (lu c / 2 ^ x % 2 = 1)
theorem l_one {y : Int} {n : Nat} (h : lu y % 2 = n % 2) : wr (l_cmp (l_and y 1) 1) ≠ 0 ↔ ¬ n % 2 = 1 := by
  rw [l_and1, h, l_cmp_v (i32_n (by omega)) ⟨by decide, by decide⟩]
  by_cases z : n % 2 = 1
  · rw [z, if_neg (by decide), if_pos (by decide), wr_0]
    omega
  · rw [if_neg (by omega), if_neg (by omega), wr_m1]
    omega
theorem s122 {d : Nat} (h : 1 ≤ d) (σ : HP) (c : Int) {x : Nat} (hx : x < 64) : clR PG0 MX d 122 [vL c, vI x] σ = some (b2i (ctB c x), σ) := by
  obtain ⟨d, rfl⟩ := ob1 (show 1 ≤ d by omega)
  have e : lu (l_ushr c x) = lu c / 2 ^ x := lu_ushr hx
  have k := l_one (y := l_ushr c x) (n := lu c / 2 ^ x) (by rw [e])
  rw [ce_122, sg_122_0]
  refine step_f (show ¬ (wr 64 ≤ wr (x : Int)) by rw [wr_id2 (by omega), wr_id2 (by omega)]; omega) ?_
  unfold ctB
  by_cases z : lu c / 2 ^ x % 2 = 1
  · rw [decide_eq_true z]
    refine step_f (fun q => (k.mp q) z) ?_
    rfl
  · rw [decide_eq_false z]
    refine step_t (k.mpr z) ?_
    rfl
/-- isWholeLoop -/
def wlB (L : LB) : Bool := decide (lA L = 0) && decide (lB L = lN0 L) && lpB L && fulB L
theorem s120 {d : Nat} (h : 6 ≤ d) {σ : HP} {b : Int} {L : LB} (hy : Lay σ) (hb : blr σ b L) (hw : wf0 L) (hb43 : b + 2 < 43) : ∃ σ', clR PG0 MX d 120 [vR 32, vR b] σ = some (b2i (wlB L), σ') ∧ FS σ σ' := by
  obtain ⟨d, rfl⟩ := ob1 (show 1 ≤ d by omega)
  obtain ⟨⟨m1, m2, m3, m4, m5, m6, m7, m8, m9⟩, f3, f4, f5, f6, fs, fw⟩ := id hb
  have y1 := hy.1
  have a1 := y32_m1 hy
  have a5 := y32_5 hy
  have b84 := y84_m1 hy
  obtain ⟨w1, w2, w3, -⟩ := id hw
  obtain ⟨σ1, k1, F1, -⟩ := s54 (d := d) (by omega) hy hb hw hb43
  have e43 := s43 (d := d) (by omega) hb hw
  unfold wlB
  by_cases zA : lA L = 0
  · by_cases zB : lB L = lN0 L
    · rw [decide_eq_true zA, decide_eq_true zB, Bool.true_and, Bool.true_and]
      cases zl : lpB L with
      | false =>
        rw [zl] at e43
        rw [Bool.false_and]
        refine ⟨σ, ?_, FS.rf hy⟩
        rw [ce_120, sg_120_0]
        (try simp (disch := omega) only [f3, f4, f5, wr_id2])
        repeat (first | ((with_reducible refine step_t ?_ ?_); with_reducible exact True.intro) | ((with_reducible refine step_t ?_ ?_); omega) | ((with_reducible refine step_f ?_ ?_); omega))
        refine step_c (e43) ?_
        try dsimp only
        rw [wr_b2i]
        refine step_t (show b2i false = 0 by decide) ?_
        rfl
      | true =>
        rw [zl] at e43
        rw [Bool.true_and]
        refine ⟨σ1, ?_, F1⟩
        rw [ce_120, sg_120_0]
        (try simp (disch := omega) only [f3, f4, f5, wr_id2])
        repeat (first | ((with_reducible refine step_t ?_ ?_); with_reducible exact True.intro) | ((with_reducible refine step_t ?_ ?_); omega) | ((with_reducible refine step_f ?_ ?_); omega))
        refine step_c (e43) ?_
        try dsimp only
        rw [wr_b2i]
        refine step_f (show ¬ (b2i true = 0) by decide) ?_
        (try simp (disch := omega) only [a5, wr_id2])
        repeat (first | ((with_reducible refine step_t ?_ ?_); with_reducible exact True.intro) | ((with_reducible refine step_t ?_ ?_); omega) | ((with_reducible refine step_f ?_ ?_); omega))
        refine step_c (k1) ?_
        try dsimp only
        rw [wr_b2i]
        cases fulB L with
        | false =>
          refine step_t (show b2i false = 0 by decide) ?_
          rfl
        | true =>
          refine step_f (show ¬ (b2i true = 0) by decide) ?_
          rfl
    · rw [decide_eq_false zB, Bool.and_false, Bool.false_and, Bool.false_and]
      refine ⟨σ, ?_, FS.rf hy⟩
      rw [ce_120, sg_120_0]
      (try simp (disch := omega) only [f3, f4, f5, wr_id2])
      repeat (first | ((with_reducible refine step_t ?_ ?_); with_reducible exact True.intro) | ((with_reducible refine step_t ?_ ?_); omega) | ((with_reducible refine step_f ?_ ?_); omega))
      rfl
  · rw [decide_eq_false zA, Bool.false_and, Bool.false_and, Bool.false_and]
    refine ⟨σ, ?_, FS.rf hy⟩
    rw [ce_120, sg_120_0]
    (try simp (disch := omega) only [f3, f4, f5, wr_id2])
    repeat (first | ((with_reducible refine step_t ?_ ?_); with_reducible exact True.intro) | ((with_reducible refine step_t ?_ ?_); omega) | ((with_reducible refine step_f ?_ ?_); omega))
    rfl
