/-! EXTEND: extended, whole -/
theorem s121 {d : Nat} (h : 9 ≤ d) {σ : HP} {b : Int} {L : LB} (hy : Lay σ) (hb : blr σ b L) (hb43 : b + 2 < 43) (hw : wf0 L) (hN : lN0 L ≤ 6) (h1 : 1 ≤ (lT L).length) (h64 : (lT L).length ≤ 64) (c : Int) : ∃ σ', clR PG0 MX d 121 [vR b, vL c, vR 43] σ = some (0, σ') ∧ DW σ σ' (emL L (exL L c)) := by
  obtain ⟨d, rfl⟩ := ob1 (show 1 ≤ d by omega)
  obtain ⟨⟨m1, m2, m3, m4, m5, m6, m7, m8, m9⟩, f3, f4, f5, f6, fs, fw⟩ := id hb
  have q2 : lS L < 2 ^ lN0 L := hw.2.2.2.1
  have q3 : 2 ^ lN0 L ≤ 2 ^ (lN0 L + 2) := Nat.pow_le_pow_right (by omega) (by omega)
  have y1 := hy.1
  obtain ⟨z5, z6, z7, -⟩ := yb_43 hy
  have e0 : σ (b + 2) 0 = (lS L : Nat) := by
    have := fw 0 (Nat.zero_le _)
    rw [wd_0] at this
    exact this
  obtain ⟨σ1, k1, k2, k3, k4⟩ := s28 (d := d) (by omega) (yb_43 hy) (lN0 L + 2) 0 (lN0 L + 2) (lS L)
  have k1 : clR PG0 MX d 28 [vR 43, vI ((lN0 L : Int) + 2), vI 0, vI ((lN0 L : Int) + 2), vI (lS L : Nat)] σ = some (0, σ1) := k1
  have D1 : DW σ σ1 (emL L []) := ⟨(FS.rf hy).ag3 k2 k3.1, k3, ⟨by show lN0 L + 2 ≤ 8; omega, Nat.zero_le _, by show lN0 L + 2 ≤ 8; omega, by show lS L < 2 ^ (lN0 L + 2); omega, Nat.zero_le _, fun x hx => by cases hx⟩, k4⟩
  have len := exL_len (L := L) (c := c) h1
  unfold exL at len
  rw [len_a, List.length_append, len_a, List.length_reverse] at len
  have e2 := slc_l (L := L) (f := 0) (i := (lT L).length - 1) (Nat.zero_le _) (by omega)
  rw [Nat.sub_zero] at e2
  obtain ⟨σ2, j1, D2⟩ := s121l (d := d) (by omega) hb hb43 hw h1 h64 (c := c) (lT L).length 0 0 (lN0 L) (lN0 L + 1) σ1 [] vU vU vU (by omega) (Nat.le_refl _) (by omega) (by omega) (by show 0 + _ + _ + 1 ≤ 256; omega) D1
  refine ⟨σ2, ?_, ?_⟩
  · rw [ce_121, sg_121_0]
    (try simp (disch := omega) only [m5, e0, f3, wr_id2])
    repeat (first | ((with_reducible refine step_t ?_ ?_); with_reducible exact True.intro) | ((with_reducible refine step_t ?_ ?_); omega) | ((with_reducible refine step_f ?_ ?_); omega))
    refine step_c (k1) ?_
    try dsimp only
    exact j1
  · rw [List.nil_append] at D2
    exact D2
