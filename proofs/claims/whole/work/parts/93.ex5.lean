/-! EXTEND: the class makes it -/
abbrev emL (L : LB) (l : List Nat) : LB := (lN0 L + 2, 0, lN0 L + 2, lS L, l)
theorem s121e {d : Nat} (h : 8 ≤ d) {σ0 σ : HP} {b : Int} {L : LB} (hb0 : blr σ0 b L) (hb43 : b + 2 < 43) (hw : wf0 L) (h1 : 1 ≤ (lT L).length) {l : List Nat} (hl : l.length + (lT L).length + 1 ≤ 256) (hD : DW σ0 σ (emL L l)) {c a e f : Int} (u2 u8 u9 : MV) : ∃ σ', rsP PG0 MX d 121 43 [vR b, vL c, u2, vR 43, vI a, vI e, vI f, vI (lT L).length, u8, u9] [] σ = some (0, σ') ∧ DW σ0 σ' (emL L (l ++ [lN0 L] ++ (slc L 0 ((lT L).length - 1)).reverse ++ [lN0 L + 1])) := by
  have hn := wf_len hw
  have h9 := hw.1
  have e2 := slc_l (L := L) (f := 0) (i := (lT L).length - 1) (Nat.zero_le _) (by omega)
  rw [Nat.sub_zero] at e2
  have hb := hD.blr hb0 hb43
  obtain ⟨⟨m1, m2, m3, m4, m5, m6, m7, m8, m9⟩, f3, f4, f5, f6, fs, fw⟩ := id hb
  obtain ⟨σ1, k1, D1⟩ := dw_push (d := d) (by omega) hD (x := lN0 L) (show lN0 L < lN0 L + 2 by omega) (show l.length < 256 by omega)
  have D1 : DW σ0 σ1 (emL L (l ++ [lN0 L])) := D1
  have hb1 := D1.blr hb0 hb43
  obtain ⟨⟨n1, n2, n3, -⟩, n5, -, -, n6, -⟩ := id hb1
  obtain ⟨σ2, k2, D2⟩ := dw_bk (d := d) (by omega) D1 hb0 hb43 hw (i := 0) (j := (lT L).length - 1) (Nat.zero_le _) (by omega) (by show (l ++ [lN0 L]).length + _ ≤ 256; rw [len_a]; omega) (show lN0 L ≤ lN0 L + 2 by omega)
  have D2 : DW σ0 σ2 (emL L (l ++ [lN0 L] ++ (slc L 0 ((lT L).length - 1 - 0)).reverse)) := D2
  rw [Nat.sub_zero] at D2
  have hb2 := D2.blr hb0 hb43
  obtain ⟨⟨o1, o2, o3, -⟩, o5, -⟩ := id hb2
  obtain ⟨σ3, k3, D3⟩ := dw_push (d := d) (by omega) D2 (x := lN0 L + 1) (show lN0 L + 1 < lN0 L + 2 by omega) (show (l ++ [lN0 L] ++ (slc L 0 ((lT L).length - 1)).reverse).length < 256 by rw [List.length_append, len_a, List.length_reverse]; omega)
  have D3 : DW σ0 σ3 (emL L (l ++ [lN0 L] ++ (slc L 0 ((lT L).length - 1)).reverse ++ [lN0 L + 1])) := D3
  obtain ⟨z5, z6, z7, -⟩ := yb_43 hD.fs.2
  obtain ⟨v5, v6, v7, -⟩ := yb_43 D1.fs.2
  obtain ⟨t5, t6, t7, -⟩ := yb_43 D2.fs.2
  rw [show (((lT L).length - 1 : Nat) : Int) = ((lT L).length : Nat) - 1 by omega] at k2
  refine ⟨σ3, ?_, D3⟩
  rw [sg_121_43]
  (try simp (disch := omega) only [f6, f3, wr_id2])
  repeat (first | ((with_reducible refine step_t ?_ ?_); with_reducible exact True.intro) | ((with_reducible refine step_t ?_ ?_); omega) | ((with_reducible refine step_f ?_ ?_); omega))
  refine step_c (k1) ?_
  try dsimp only
  (try simp (disch := omega) only [n6, wr_id2])
  repeat (first | ((with_reducible refine step_t ?_ ?_); with_reducible exact True.intro) | ((with_reducible refine step_t ?_ ?_); omega) | ((with_reducible refine step_f ?_ ?_); omega))
  refine step_c (k2) ?_
  try dsimp only
  (try simp (disch := omega) only [o5, wr_id2])
  repeat (first | ((with_reducible refine step_t ?_ ?_); with_reducible exact True.intro) | ((with_reducible refine step_t ?_ ?_); omega) | ((with_reducible refine step_f ?_ ?_); omega))
  refine step_c (k3) ?_
  try dsimp only
