/-! EXTEND: one piece, in the reference -/
abbrev nwb (L : LB) (q : Nat) : Nat := if q % 2 = 0 then lN0 L else lN0 L + 1
theorem s253p {d : Nat} (h : 4 ≤ d) {σ0 σ : HP} {n : Nat} (hn : n < 3) {L : LB} (hr0 : slR σ0 n L) (hw : wf0 L) {l : List Nat} {i f q : Nat} (hf : f ≤ i) (hi : i < (lT L).length) (hq : q < 1000) (hl : l.length + 3 * (i - f) + 3 ≤ 600) (hD : DM σ0 σ l) {c : Int} (u9 : MV) : ∃ σ', rsP PG0 MX d 253 77 [vR 101, vI n, vL c, vU, vI (lN0 L : Nat), vI (((lT L).length : Int) - 1), vI f, vI q, vI i, u9] [] σ = rsP PG0 MX d 253 30 [vR 101, vI n, vL c, vU, vI (lN0 L : Nat), vI (((lT L).length : Int) - 1), vI ((i : Int) + 1), vI ((q : Int) + 1), vI ((i : Int) + 1), vU] [] σ' ∧ DM σ0 σ' (l ++ (slc L f (i - f) ++ [nwb L q] ++ (slc L f (i - f)).reverse ++ [nwb L (q + 1)] ++ slc L f (i - f) ++ (if i + 1 = (lT L).length then [] else slc L i 1))) := by
  have hn2 := wf_len hw
  have h9 := hw.1
  have es := slc_l (L := L) hf (show i ≤ (lT L).length by omega)
  obtain ⟨σ1, k1, D1⟩ := dm_on (d := d) (by omega) hn hr0 hw (i := f) (j := i) hf (by omega) hD (by omega)
  obtain ⟨σ2, k2, D2⟩ := dm_push (d := d) (by omega) D1 (by rw [List.length_append]; omega) (nwb L q)
  obtain ⟨σ3, k3, D3⟩ := dm_bk (d := d) (by omega) hn hr0 hw (i := f) (j := i) hf (by omega) D2 (by rw [len_a, List.length_append]; omega)
  obtain ⟨σ4, k4, D4⟩ := dm_push (d := d) (by omega) D3 (by rw [List.length_append, len_a, List.length_append, List.length_reverse]; omega) (nwb L (q + 1))
  obtain ⟨σ5, k5, D5⟩ := dm_on (d := d) (by omega) hn hr0 hw (i := f) (j := i) hf (by omega) D4 (by rw [len_a, List.length_append, len_a, List.length_append, List.length_reverse]; omega)
  have er := i_rem_n (a := q) (b := 2) (by omega) (by omega) (by omega)
  have er : i_rem (q : Int) 2 = ((q % 2 : Nat) : Int) := er
  have hy := hD.1.2
  have y1 := hy.1; have k101 := y101_m1 hy
  have hy1 := D1.1.2
  have y1b := hy1.1; have k101b := y101_m1 hy1
  have hy2 := D2.1.2
  have y1c := hy2.1; have k101c := y101_m1 hy2
  have hy3 := D3.1.2
  have y1d := hy3.1; have k101d := y101_m1 hy3
  have hy4 := D4.1.2
  have y1e := hy4.1; have k101e := y101_m1 hy4
  have pre : rsP PG0 MX d 253 77 [vR 101, vI n, vL c, vU, vI (lN0 L : Nat), vI (((lT L).length : Int) - 1), vI f, vI q, vI i, u9] [] σ = rsP PG0 MX d 253 132 [vR 101, vI n, vL c, vU, vI (lN0 L : Nat), vI (((lT L).length : Int) - 1), vI f, vI q, vI i, vU] [vI (nwb L (q + 1) : Nat), vR 101] σ3 := by
    by_cases z : q % 2 = 0
    · have z2 : ¬ (q + 1) % 2 = 0 := by omega
      unfold nwb at k2 ⊢
      rw [if_pos z] at k2
      rw [if_neg z2, sg_253_77]
      repeat (first | ((with_reducible refine step_t ?_ ?_); with_reducible exact True.intro) | ((with_reducible refine step_t ?_ ?_); omega) | ((with_reducible refine step_f ?_ ?_); omega))
      refine step_c (k1) ?_
      try dsimp only
      rw [er]
      (try simp (disch := omega) only [wr_id2])
      repeat (first | ((with_reducible refine step_t ?_ ?_); with_reducible exact True.intro) | ((with_reducible refine step_t ?_ ?_); omega) | ((with_reducible refine step_f ?_ ?_); omega))
      rw [sg_253_103]
      repeat (first | ((with_reducible refine step_t ?_ ?_); with_reducible exact True.intro) | ((with_reducible refine step_t ?_ ?_); omega) | ((with_reducible refine step_f ?_ ?_); omega))
      refine step_c (k2) ?_
      try dsimp only
      repeat (first | ((with_reducible refine step_t ?_ ?_); with_reducible exact True.intro) | ((with_reducible refine step_t ?_ ?_); omega) | ((with_reducible refine step_f ?_ ?_); omega))
      refine step_c (k3) ?_
      try dsimp only
      rw [er]
      (try simp (disch := omega) only [wr_id2])
      repeat (first | ((with_reducible refine step_t ?_ ?_); with_reducible exact True.intro) | ((with_reducible refine step_t ?_ ?_); omega) | ((with_reducible refine step_f ?_ ?_); omega))
      rfl
    · have z2 : (q + 1) % 2 = 0 := by omega
      unfold nwb at k2 ⊢
      rw [if_neg z] at k2
      rw [if_pos z2, sg_253_77]
      repeat (first | ((with_reducible refine step_t ?_ ?_); with_reducible exact True.intro) | ((with_reducible refine step_t ?_ ?_); omega) | ((with_reducible refine step_f ?_ ?_); omega))
      refine step_c (k1) ?_
      try dsimp only
      rw [er]
      (try simp (disch := omega) only [wr_id2])
      repeat (first | ((with_reducible refine step_t ?_ ?_); with_reducible exact True.intro) | ((with_reducible refine step_t ?_ ?_); omega) | ((with_reducible refine step_f ?_ ?_); omega))
      rw [sg_253_103]
      repeat (first | ((with_reducible refine step_t ?_ ?_); with_reducible exact True.intro) | ((with_reducible refine step_t ?_ ?_); omega) | ((with_reducible refine step_f ?_ ?_); omega))
      refine step_c (k2) ?_
      try dsimp only
      repeat (first | ((with_reducible refine step_t ?_ ?_); with_reducible exact True.intro) | ((with_reducible refine step_t ?_ ?_); omega) | ((with_reducible refine step_f ?_ ?_); omega))
      refine step_c (k3) ?_
      try dsimp only
      rw [er]
      (try simp (disch := omega) only [wr_id2])
      repeat (first | ((with_reducible refine step_t ?_ ?_); with_reducible exact True.intro) | ((with_reducible refine step_t ?_ ?_); omega) | ((with_reducible refine step_f ?_ ?_); omega))
      rfl
  rw [pre]
  have hy5 := D5.1.2
  have y1g := hy5.1; have k101g := y101_m1 hy5
  by_cases z : i + 1 = (lT L).length
  · rw [if_pos z]
    refine ⟨σ5, ?_, by rw [List.append_nil]; simp only [← List.append_assoc]; exact D5⟩
    rw [sg_253_132]
    repeat (first | ((with_reducible refine step_t ?_ ?_); with_reducible exact True.intro) | ((with_reducible refine step_t ?_ ?_); omega) | ((with_reducible refine step_f ?_ ?_); omega))
    refine step_c (k4) ?_
    try dsimp only
    repeat (first | ((with_reducible refine step_t ?_ ?_); with_reducible exact True.intro) | ((with_reducible refine step_t ?_ ?_); omega) | ((with_reducible refine step_f ?_ ?_); omega))
    refine step_c (k5) ?_
    try dsimp only
    (try simp (disch := omega) only [wr_id2])
    repeat (first | ((with_reducible refine step_t ?_ ?_); with_reducible exact True.intro) | ((with_reducible refine step_t ?_ ?_); omega) | ((with_reducible refine step_f ?_ ?_); omega))
    rw [sg_253_162]
  · rw [if_neg z]
    have hx : (lT L)[i]? = some (lT L)[i] := List.getElem?_eq_getElem hi
    have hx1 : slc L i 1 = [(lT L)[i]] := by rw [slc_cons (n := 0) hx, slc_0]
    obtain ⟨σ6, k6, D6⟩ := dm_push (d := d) (by omega) D5 (by rw [List.length_append, len_a, List.length_append, len_a, List.length_append, List.length_reverse]; omega) (lT L)[i]
    have e205 := s205 (d := d) (by omega) D5.1.2 hn (D5.1.slr hr0) hw hx
    refine ⟨σ6, ?_, by rw [hx1]; simp only [← List.append_assoc]; exact D6⟩
    rw [sg_253_132]
    repeat (first | ((with_reducible refine step_t ?_ ?_); with_reducible exact True.intro) | ((with_reducible refine step_t ?_ ?_); omega) | ((with_reducible refine step_f ?_ ?_); omega))
    refine step_c (k4) ?_
    try dsimp only
    repeat (first | ((with_reducible refine step_t ?_ ?_); with_reducible exact True.intro) | ((with_reducible refine step_t ?_ ?_); omega) | ((with_reducible refine step_f ?_ ?_); omega))
    refine step_c (k5) ?_
    try dsimp only
    (try simp (disch := omega) only [wr_id2])
    repeat (first | ((with_reducible refine step_t ?_ ?_); with_reducible exact True.intro) | ((with_reducible refine step_t ?_ ?_); omega) | ((with_reducible refine step_f ?_ ?_); omega))
    refine step_c (e205) ?_
    try dsimp only
    repeat (first | ((with_reducible refine step_t ?_ ?_); with_reducible exact True.intro) | ((with_reducible refine step_t ?_ ?_); omega) | ((with_reducible refine step_f ?_ ?_); omega))
    refine step_c (k6) ?_
    try dsimp only
    rw [sg_253_162]
