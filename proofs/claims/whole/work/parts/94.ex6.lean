/-! EXTEND: one piece, in the class -/
theorem s121p {d : Nat} (h : 8 ≤ d) {σ0 σ : HP} {b : Int} {L : LB} (hb0 : blr σ0 b L) (hb43 : b + 2 < 43) (hw : wf0 L) {l : List Nat} {i f a e : Nat} (hf : f ≤ i) (hi : i < (lT L).length) (ha : a < lN0 L + 2) (he : e < lN0 L + 2) (hl : l.length + 3 * (i - f) + 3 ≤ 256) (hD : DW σ0 σ (emL L l)) {c : Int} : ∃ σ', rsP PG0 MX d 121 84 [vR b, vL c, vU, vR 43, vI a, vI e, vI f, vI i, vI (b2i (decide (i + 1 = (lT L).length))), vU] [] σ = rsP PG0 MX d 121 43 [vR b, vL c, vU, vR 43, vI e, vI a, vI ((i : Int) + 1), vI ((i : Int) + 1), vU, vU] [] σ' ∧ DW σ0 σ' (emL L (l ++ (slc L f (i - f) ++ [a] ++ (slc L f (i - f)).reverse ++ [e] ++ slc L f (i - f) ++ (if i + 1 = (lT L).length then [] else slc L i 1)))) := by
  have hn := wf_len hw
  have h9 := hw.1
  have es := slc_l (L := L) hf (show i ≤ (lT L).length by omega)
  obtain ⟨σ1, k1, D1⟩ := dw_on0 (d := d) (by omega) hD hb0 hb43 hw (i := f) (j := i) hf (by omega) (show l.length + (i - f) ≤ 256 by omega) (show lN0 L ≤ lN0 L + 2 by omega)
  have D1 : DW σ0 σ1 (emL L (l ++ slc L f (i - f))) := D1
  obtain ⟨σ2, k2, D2⟩ := dw_push (d := d) (by omega) D1 (x := a) ha (show (l ++ slc L f (i - f)).length < 256 by rw [List.length_append]; omega)
  have D2 : DW σ0 σ2 (emL L (l ++ slc L f (i - f) ++ [a])) := D2
  obtain ⟨σ3, k3, D3⟩ := dw_bk (d := d) (by omega) D2 hb0 hb43 hw (i := f) (j := i) hf (by omega) (show (l ++ slc L f (i - f) ++ [a]).length + (i - f) ≤ 256 by rw [len_a, List.length_append]; omega) (show lN0 L ≤ lN0 L + 2 by omega)
  have D3 : DW σ0 σ3 (emL L (l ++ slc L f (i - f) ++ [a] ++ (slc L f (i - f)).reverse)) := D3
  obtain ⟨σ4, k4, D4⟩ := dw_push (d := d) (by omega) D3 (x := e) he (show (l ++ slc L f (i - f) ++ [a] ++ (slc L f (i - f)).reverse).length < 256 by rw [List.length_append, len_a, List.length_append, List.length_reverse]; omega)
  have D4 : DW σ0 σ4 (emL L (l ++ slc L f (i - f) ++ [a] ++ (slc L f (i - f)).reverse ++ [e])) := D4
  obtain ⟨σ5, k5, D5⟩ := dw_on0 (d := d) (by omega) D4 hb0 hb43 hw (i := f) (j := i) hf (by omega) (show (l ++ slc L f (i - f) ++ [a] ++ (slc L f (i - f)).reverse ++ [e]).length + (i - f) ≤ 256 by rw [len_a, List.length_append, len_a, List.length_append, List.length_reverse]; omega) (show lN0 L ≤ lN0 L + 2 by omega)
  have D5 : DW σ0 σ5 (emL L (l ++ slc L f (i - f) ++ [a] ++ (slc L f (i - f)).reverse ++ [e] ++ slc L f (i - f))) := D5
  obtain ⟨z5, z6, z7, -⟩ := yb_43 hD.fs.2
  obtain ⟨r5, r6, r7, -⟩ := yb_43 D1.fs.2
  obtain ⟨s5, s6, s7, -⟩ := yb_43 D2.fs.2
  obtain ⟨t5, t6, t7, -⟩ := yb_43 D3.fs.2
  obtain ⟨v5, v6, v7, -⟩ := yb_43 D4.fs.2
  obtain ⟨w5, w6, w7, -⟩ := yb_43 D5.fs.2
  have pre : rsP PG0 MX d 121 84 [vR b, vL c, vU, vR 43, vI a, vI e, vI f, vI i, vI (b2i (decide (i + 1 = (lT L).length))), vU] [] σ = rsP PG0 MX d 121 115 [vR b, vL c, vU, vR 43, vI a, vI e, vI f, vI i, vI (b2i (decide (i + 1 = (lT L).length))), vU] [] σ4 := by
    rw [sg_121_84]
    repeat (first | ((with_reducible refine step_t ?_ ?_); with_reducible exact True.intro) | ((with_reducible refine step_t ?_ ?_); omega) | ((with_reducible refine step_f ?_ ?_); omega))
    refine step_c (k1) ?_
    try dsimp only
    repeat (first | ((with_reducible refine step_t ?_ ?_); with_reducible exact True.intro) | ((with_reducible refine step_t ?_ ?_); omega) | ((with_reducible refine step_f ?_ ?_); omega))
    refine step_c (k2) ?_
    try dsimp only
    repeat (first | ((with_reducible refine step_t ?_ ?_); with_reducible exact True.intro) | ((with_reducible refine step_t ?_ ?_); omega) | ((with_reducible refine step_f ?_ ?_); omega))
    refine step_c (k3) ?_
    try dsimp only
    repeat (first | ((with_reducible refine step_t ?_ ?_); with_reducible exact True.intro) | ((with_reducible refine step_t ?_ ?_); omega) | ((with_reducible refine step_f ?_ ?_); omega))
    refine step_c (k4) ?_
    try dsimp only
  rw [pre]
  by_cases z : i + 1 = (lT L).length
  · rw [decide_eq_true z, if_pos z]
    refine ⟨σ5, ?_, by rw [List.append_nil]; simp only [← List.append_assoc]; exact D5⟩
    rw [sg_121_115]
    repeat (first | ((with_reducible refine step_t ?_ ?_); with_reducible exact True.intro) | ((with_reducible refine step_t ?_ ?_); omega) | ((with_reducible refine step_f ?_ ?_); omega))
    refine step_c (k5) ?_
    try dsimp only
    refine step_t (show wr (b2i true) ≠ 0 by decide) ?_
    rw [sg_121_141]
  · rw [decide_eq_false z, if_neg z]
    have hx : (lT L)[i]? = some (lT L)[i] := List.getElem?_eq_getElem hi
    have hx1 : slc L i 1 = [(lT L)[i]] := by rw [slc_cons (n := 0) hx, slc_0]
    have hxN : (lT L)[i] < lN0 L := hw.2.2.2.2.2 _ (List.getElem_mem hi)
    have hb5 := D5.blr hb0 hb43
    obtain ⟨⟨m1, m2, m3, m4, m5, m6, m7, m8, m9⟩, f3, f4, f5, f6, fs, fw⟩ := id hb5
    have es5 := fs i _ hx
    obtain ⟨σ6, k6, D6⟩ := dw_push (d := d) (by omega) D5 (x := (lT L)[i]) (show (lT L)[i] < lN0 L + 2 by omega) (show (l ++ slc L f (i - f) ++ [a] ++ (slc L f (i - f)).reverse ++ [e] ++ slc L f (i - f)).length < 256 by rw [List.length_append, len_a, List.length_append, len_a, List.length_append, List.length_reverse]; omega)
    have D6 : DW σ0 σ6 (emL L (l ++ slc L f (i - f) ++ [a] ++ (slc L f (i - f)).reverse ++ [e] ++ slc L f (i - f) ++ [(lT L)[i]])) := D6
    refine ⟨σ6, ?_, by rw [hx1]; simp only [← List.append_assoc]; exact D6⟩
    rw [sg_121_115]
    repeat (first | ((with_reducible refine step_t ?_ ?_); with_reducible exact True.intro) | ((with_reducible refine step_t ?_ ?_); omega) | ((with_reducible refine step_f ?_ ?_); omega))
    refine step_c (k5) ?_
    try dsimp only
    refine step_f (show ¬ (wr (b2i false) ≠ 0) by decide) ?_
    (try simp (disch := omega) only [m4, es5, wr_id2])
    repeat (first | ((with_reducible refine step_t ?_ ?_); with_reducible exact True.intro) | ((with_reducible refine step_t ?_ ?_); omega) | ((with_reducible refine step_f ?_ ?_); omega))
    refine step_c (k6) ?_
    try dsimp only
    rw [sg_121_141]
