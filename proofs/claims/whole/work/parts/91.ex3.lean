/-! EXTEND: whole loops in the reference -/
theorem s252 {d : Nat} (h : 6 ≤ d) {σ : HP} {n : Nat} {L : LB} (hy : Lay σ) (hn : n < 3) (hr : slR σ n L) (hw : wf0 L) : ∃ σ', clR PG0 MX d 252 [vR 101, vI n] σ = some (b2i (wlB L), σ') ∧ FQ σ σ' := by
  obtain ⟨d, rfl⟩ := ob1 (show 1 ≤ d by omega)
  have y1 := hy.1; have k101 := y101_m1 hy
  obtain ⟨w1, w2, w3, -⟩ := id hw
  obtain ⟨σ1, k1, F1, r1, wr1⟩ := s206 (d := d) (by omega) hy hn hr hw
  have hy1 := F1.2
  have y1b := hy1.1; have k101b := y101_m1 hy1
  have e18 := wr1.2.2.2
  have eA := s181 (d := d) (by omega) hy1 hn (j := 1) (by omega) (by omega)
  have eB := s181 (d := d) (by omega) hy1 hn (j := 2) (by omega) (by omega)
  rw [r1.2.1] at eA
  rw [r1.2.2.1] at eB
  have eN := s207 (d := d) (by omega) hy1 hn r1
  unfold wlB
  refine ⟨σ1, ?_, F1⟩
  rw [ce_252, sg_252_0]
  repeat (first | ((with_reducible refine step_t ?_ ?_); with_reducible exact True.intro) | ((with_reducible refine step_t ?_ ?_); omega) | ((with_reducible refine step_f ?_ ?_); omega))
  refine step_c (k1) ?_
  try dsimp only
  rw [wr_b2i]
  cases zf : fulB L with
  | false =>
    rw [Bool.and_false]
    refine step_t (show b2i false = 0 by decide) ?_
    rw [sg_252_42]
    rfl
  | true =>
    rw [Bool.and_true]
    refine step_f (show ¬ (b2i true = 0) by decide) ?_
    repeat (first | ((with_reducible refine step_t ?_ ?_); with_reducible exact True.intro) | ((with_reducible refine step_t ?_ ?_); omega) | ((with_reducible refine step_f ?_ ?_); omega))
    cases zl : lpB L with
    | false =>
      rw [Bool.and_false]
      rw [zl] at e18
      refine step_t (show wr (σ1 101 18) = 0 by rw [e18]; rfl) ?_
      rw [sg_252_42]
      rfl
    | true =>
      rw [Bool.and_true]
      rw [zl] at e18
      refine step_f (show ¬ wr (σ1 101 18) = 0 by rw [e18]; decide) ?_
      repeat (first | ((with_reducible refine step_t ?_ ?_); with_reducible exact True.intro) | ((with_reducible refine step_t ?_ ?_); omega) | ((with_reducible refine step_f ?_ ?_); omega))
      refine step_c (eA) ?_
      try dsimp only
      by_cases zA : lA L = 0
      · rw [decide_eq_true zA, Bool.true_and]
        (try simp (disch := omega) only [wr_id2])
        repeat (first | ((with_reducible refine step_t ?_ ?_); with_reducible exact True.intro) | ((with_reducible refine step_t ?_ ?_); omega) | ((with_reducible refine step_f ?_ ?_); omega))
        refine step_c (eB) ?_
        try dsimp only
        repeat (first | ((with_reducible refine step_t ?_ ?_); with_reducible exact True.intro) | ((with_reducible refine step_t ?_ ?_); omega) | ((with_reducible refine step_f ?_ ?_); omega))
        refine step_c (eN) ?_
        try dsimp only
        by_cases zB : lB L = lN0 L
        · rw [decide_eq_true zB]
          (try simp (disch := omega) only [wr_id2])
          repeat (first | ((with_reducible refine step_t ?_ ?_); with_reducible exact True.intro) | ((with_reducible refine step_t ?_ ?_); omega) | ((with_reducible refine step_f ?_ ?_); omega))
          rw [sg_252_38]
          rfl
        · rw [decide_eq_false zB]
          (try simp (disch := omega) only [wr_id2])
          repeat (first | ((with_reducible refine step_t ?_ ?_); with_reducible exact True.intro) | ((with_reducible refine step_t ?_ ?_); omega) | ((with_reducible refine step_f ?_ ?_); omega))
          rw [sg_252_42]
          rfl
      · rw [decide_eq_false zA, Bool.false_and]
        (try simp (disch := omega) only [wr_id2])
        repeat (first | ((with_reducible refine step_t ?_ ?_); with_reducible exact True.intro) | ((with_reducible refine step_t ?_ ?_); omega) | ((with_reducible refine step_f ?_ ?_); omega))
        rw [sg_252_42]
        rfl
