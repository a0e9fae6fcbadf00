/-! EXTEND: the reference makes it -/
theorem s253e {d : Nat} (h : 4 ≤ d) {σ0 σ : HP} {n : Nat} (hn : n < 3) {L : LB} (hr0 : slR σ0 n L) (hw : wf0 L) (h1 : 1 ≤ (lT L).length) {l : List Nat} (hl : l.length + (lT L).length + 1 ≤ 600) (hD : DM σ0 σ l) {c f : Int} {q : Nat} (u3 u9 : MV) : ∃ σ', rsP PG0 MX d 253 30 [vR 101, vI n, vL c, u3, vI (lN0 L : Nat), vI (((lT L).length : Int) - 1), vI f, vI q, vI (lT L).length, u9] [] σ = some (0, σ') ∧ DM σ0 σ' (l ++ [lN0 L] ++ (slc L 0 ((lT L).length - 1)).reverse ++ [lN0 L + 1]) := by
  have hn2 := wf_len hw
  have h9 := hw.1
  have e2 := slc_l (L := L) (f := 0) (i := (lT L).length - 1) (Nat.zero_le _) (by omega)
  rw [Nat.sub_zero] at e2
  obtain ⟨σ1, k1, D1⟩ := dm_push (d := d) (by omega) hD (by omega) (lN0 L)
  obtain ⟨σ2, k2, D2⟩ := dm_bk (d := d) (by omega) hn hr0 hw (i := 0) (j := (lT L).length - 1) (Nat.zero_le _) (by omega) D1 (by rw [len_a]; omega)
  rw [Nat.sub_zero] at D2
  obtain ⟨σ3, k3, D3⟩ := dm_push (d := d) (by omega) D2 (by rw [List.length_append, len_a, List.length_reverse]; omega) (lN0 L + 1)
  rw [show (((lT L).length - 1 : Nat) : Int) = ((lT L).length : Int) - 1 by omega] at k2
  have hy := hD.1.2
  have y1 := hy.1; have k101 := y101_m1 hy
  have hy1 := D1.1.2
  have y1b := hy1.1; have k101b := y101_m1 hy1
  have hy2 := D2.1.2
  have y1c := hy2.1; have k101c := y101_m1 hy2
  refine ⟨σ3, ?_, D3⟩
  rw [sg_253_30]
  (try simp (disch := omega) only [wr_id2])
  repeat (first | ((with_reducible refine step_t ?_ ?_); with_reducible exact True.intro) | ((with_reducible refine step_t ?_ ?_); omega) | ((with_reducible refine step_f ?_ ?_); omega))
  refine step_c (k1) ?_
  try dsimp only
  repeat (first | ((with_reducible refine step_t ?_ ?_); with_reducible exact True.intro) | ((with_reducible refine step_t ?_ ?_); omega) | ((with_reducible refine step_f ?_ ?_); omega))
  refine step_c (k2) ?_
  try dsimp only
  repeat (first | ((with_reducible refine step_t ?_ ?_); with_reducible exact True.intro) | ((with_reducible refine step_t ?_ ?_); omega) | ((with_reducible refine step_f ?_ ?_); omega))
  refine step_c (k3) ?_
  try dsimp only
