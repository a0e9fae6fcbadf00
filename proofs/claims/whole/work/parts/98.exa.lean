/-! EXTEND: the class -/
theorem ful_1 {L : LB} : ∀ (m w : Nat), fulF L m w = true → ∀ v, w ≤ v → v < w + m → cW L v ≤ 1 := by
  intro m
  induction m with
  | zero => intro w _ v h1 h2; omega
  | succ m ih =>
    intro w h v h1 h2
    have h : (if cW L w = (bif inSc L w then 1 else 0) then fulF L m (w + 1) else false) = true := h
    by_cases z : cW L w = (bif inSc L w then 1 else 0)
    · rw [if_pos z] at h
      by_cases zv : v = w
      · rw [zv, z]; cases inSc L w <;> decide
      · exact ih (w + 1) h v (by omega) (by omega)
    · rw [if_neg z] at h; cases h
theorem wl_len {L : LB} (hw : wf0 L) (h : wlB L = true) : 1 ≤ (lT L).length ∧ (lT L).length ≤ 2 ^ lN0 L := by
  unfold wlB at h
  rw [Bool.and_eq_true, Bool.and_eq_true] at h
  obtain ⟨l1, l2⟩ := lp_len h.1.2
  have k := one_len hw (fun w hw2 => ful_1 _ 0 h.2 w (Nat.zero_le _) (by omega))
  exact ⟨l1, by omega⟩
theorem pow6 {n : Nat} (h : n ≤ 6) : 2 ^ n ≤ 64 := Nat.pow_le_pow_right (show 0 < 2 by decide) h
def extQ (c : Int) (L : LB) : Int × Option LB := if cutB L c = true then (if lN0 L ≤ 6 then (if wlB L = true then ((lN0 L + 2 : Nat), some (emL L (exL L c))) else (-6, none)) else (-5, none)) else (-2, none)
theorem c117 (S : AS) {s c : Int} (hs : i32 s) : cOp 117 [vI s, vL c] S (aA S s (extQ c)) := by
  intro d σ h hy ht hc
  obtain ⟨d, rfl⟩ := ob1 (show 1 ≤ d by omega)
  have y1 := hy.1
  have a1 := y32_m1 hy
  have a5 := y32_5 hy
  have b84 := y84_m1 hy
  have e41 := s41 (d := d) (by omega) hy hc hs
  have a43 := y32_1 hy
  obtain ⟨v1, v2, v3, -⟩ := yb_43 hy
  unfold aA
  cases e : gl S s with
  | none =>
    rw [lbA_n e] at e41
    refine ⟨σ, ?_, FC.rf hy, hc⟩
    rw [ce_117, sg_117_0]
    repeat (first | ((with_reducible refine step_t ?_ ?_); with_reducible exact True.intro) | ((with_reducible refine step_t ?_ ?_); omega) | ((with_reducible refine step_f ?_ ?_); omega))
    refine step_c (e41) ?_
    try dsimp only
    repeat (first | ((with_reducible refine step_t ?_ ?_); with_reducible exact True.intro) | ((with_reducible refine step_t ?_ ?_); omega) | ((with_reducible refine step_f ?_ ?_); omega))
    rfl
  | some L =>
    rw [lbA_s e] at e41
    obtain ⟨g1, g2, g3, g4, g5⟩ := hc.got e
    have hw := g4.1
    obtain ⟨⟨m1, m2, m3, m4, m5, m6, m7, m8, m9⟩, f3, f4, f5, f6, fs, fw⟩ := id g3
    have hl := wf_len hw
    have h9 := hw.1
    have hsh := shN_le L
    dsimp only
    have e118 := s118 (d := d) (by omega) g3 hw c
    obtain ⟨σ1, k1, F1⟩ := s120 (d := d) (by omega) hy g3 hw (by omega)
    unfold extQ
    cases zc : cutB L c with
    | false =>
      rw [zc] at e118
      rw [if_neg (by decide)]
      refine ⟨σ, ?_, FC.rf hy, hc⟩
      rw [ce_117, sg_117_0]
      repeat (first | ((with_reducible refine step_t ?_ ?_); with_reducible exact True.intro) | ((with_reducible refine step_t ?_ ?_); omega) | ((with_reducible refine step_f ?_ ?_); omega))
      refine step_c (e41) ?_
      try dsimp only
      repeat (first | ((with_reducible refine step_t ?_ ?_); with_reducible exact True.intro) | ((with_reducible refine step_t ?_ ?_); omega) | ((with_reducible refine step_f ?_ ?_); omega))
      refine step_c (e118) ?_
      try dsimp only
      rw [wr_b2i]
      refine step_f (show ¬ (b2i false ≠ 0) by decide) ?_
      rfl
    | true =>
      rw [zc] at e118
      rw [if_pos rfl]
      by_cases z6 : lN0 L ≤ 6
      · rw [if_pos z6]
        cases zw : wlB L with
        | false =>
          rw [zw] at k1
          rw [if_neg (by decide)]
          refine ⟨σ1, ?_, F1.fc, F1.cr hc⟩
          rw [ce_117, sg_117_0]
          repeat (first | ((with_reducible refine step_t ?_ ?_); with_reducible exact True.intro) | ((with_reducible refine step_t ?_ ?_); omega) | ((with_reducible refine step_f ?_ ?_); omega))
          refine step_c (e41) ?_
          try dsimp only
          repeat (first | ((with_reducible refine step_t ?_ ?_); with_reducible exact True.intro) | ((with_reducible refine step_t ?_ ?_); omega) | ((with_reducible refine step_f ?_ ?_); omega))
          refine step_c (e118) ?_
          try dsimp only
          rw [wr_b2i]
          refine step_t (show b2i true ≠ 0 by decide) ?_
          (try simp (disch := omega) only [f3, wr_id2])
          repeat (first | ((with_reducible refine step_t ?_ ?_); with_reducible exact True.intro) | ((with_reducible refine step_t ?_ ?_); omega) | ((with_reducible refine step_f ?_ ?_); omega))
          refine step_c (k1) ?_
          try dsimp only
          rw [wr_b2i]
          refine step_f (show ¬ (b2i false ≠ 0) by decide) ?_
          rfl
        | true =>
          rw [zw] at k1
          rw [if_pos rfl]
          obtain ⟨w1, w2⟩ := wl_len hw zw
          have w3 := pow6 z6
          have hb1 := F1.blr g3 (by omega) (by omega)
          obtain ⟨σ2, k2, D2⟩ := s121 (d := d) (by omega) F1.2 hb1 (by omega) hw z6 w1 (by omega) c
          have D3 : DW σ σ2 (emL L (exL L c)) := ⟨F1.tr D2.fs, D2.bl, D2.wf, D2.ex⟩
          obtain ⟨σ3, j1, j2, j3, j4, j5⟩ := dw_set (d := d) (by omega) hc D3 g1 g2 (show 1 ≤ lN0 L + 2 by omega) (Nat.zero_le _) (Nat.le_refl _)
          have hy1 := F1.2
          have y11 := hy1.1
          have a11 := y32_m1 hy1
          have a431 := y32_1 hy1
          obtain ⟨⟨n1, n2, n3, -⟩, -⟩ := id hb1
          have hy2 := D3.fs.2
          have y12 := hy2.1
          have a12 := y32_m1 hy2
          have hy3 := j2.2
          have y13 := hy3.1
          have a13 := y32_m1 hy3
          have a433 := y32_1 hy3
          obtain ⟨⟨p1, p2, p3, -⟩, p5, -⟩ := id j5
          have p5 : σ3 43 3 = ((lN0 L + 2 : Nat) : Int) := p5
          refine ⟨σ3, ?_, j2, j3⟩
          rw [ce_117, sg_117_0]
          repeat (first | ((with_reducible refine step_t ?_ ?_); with_reducible exact True.intro) | ((with_reducible refine step_t ?_ ?_); omega) | ((with_reducible refine step_f ?_ ?_); omega))
          refine step_c (e41) ?_
          try dsimp only
          repeat (first | ((with_reducible refine step_t ?_ ?_); with_reducible exact True.intro) | ((with_reducible refine step_t ?_ ?_); omega) | ((with_reducible refine step_f ?_ ?_); omega))
          refine step_c (e118) ?_
          try dsimp only
          rw [wr_b2i]
          refine step_t (show b2i true ≠ 0 by decide) ?_
          (try simp (disch := omega) only [f3, wr_id2])
          repeat (first | ((with_reducible refine step_t ?_ ?_); with_reducible exact True.intro) | ((with_reducible refine step_t ?_ ?_); omega) | ((with_reducible refine step_f ?_ ?_); omega))
          refine step_c (k1) ?_
          try dsimp only
          rw [wr_b2i]
          refine step_t (show b2i true ≠ 0 by decide) ?_
          (try simp (disch := omega) only [a431, wr_id2])
          repeat (first | ((with_reducible refine step_t ?_ ?_); with_reducible exact True.intro) | ((with_reducible refine step_t ?_ ?_); omega) | ((with_reducible refine step_f ?_ ?_); omega))
          refine step_c (k2) ?_
          try dsimp only
          rw [sg_117_59]
          repeat (first | ((with_reducible refine step_t ?_ ?_); with_reducible exact True.intro) | ((with_reducible refine step_t ?_ ?_); omega) | ((with_reducible refine step_f ?_ ?_); omega))
          refine step_c (j1) ?_
          try dsimp only
          (try simp (disch := omega) only [a433, p5, wr_id2])
          repeat (first | ((with_reducible refine step_t ?_ ?_); with_reducible exact True.intro) | ((with_reducible refine step_t ?_ ?_); omega) | ((with_reducible refine step_f ?_ ?_); omega))
          rfl
      · rw [if_neg z6]
        refine ⟨σ, ?_, FC.rf hy, hc⟩
        rw [ce_117, sg_117_0]
        repeat (first | ((with_reducible refine step_t ?_ ?_); with_reducible exact True.intro) | ((with_reducible refine step_t ?_ ?_); omega) | ((with_reducible refine step_f ?_ ?_); omega))
        refine step_c (e41) ?_
        try dsimp only
        repeat (first | ((with_reducible refine step_t ?_ ?_); with_reducible exact True.intro) | ((with_reducible refine step_t ?_ ?_); omega) | ((with_reducible refine step_f ?_ ?_); omega))
        refine step_c (e118) ?_
        try dsimp only
        rw [wr_b2i]
        refine step_t (show b2i true ≠ 0 by decide) ?_
        (try simp (disch := omega) only [f3, wr_id2])
        repeat (first | ((with_reducible refine step_t ?_ ?_); with_reducible exact True.intro) | ((with_reducible refine step_t ?_ ?_); omega) | ((with_reducible refine step_f ?_ ?_); omega))
        rfl
