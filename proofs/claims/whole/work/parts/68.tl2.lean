/-- the head -/
def tBits : List Nat := [98, 105, 116, 115]
def tLevs : List Nat := [108, 101, 118, 101, 108, 115]
def tStart : List Nat := [115, 116, 97, 114, 116]
def tTo : List Nat := [116, 111]
def hdA (T : List Nat) (w : Nat) (r : RD) : Nat × Nat × RD := if rK r = 0 ∧ isL T tLevs r = true then ((rdN T 0 w (rdAdv T r)).1, (rdN T (rdN T 0 w (rdAdv T r)).1 w (rdL T tTo (rdN T 0 w (rdAdv T r)).2)).1, (rdN T (rdN T 0 w (rdAdv T r)).1 w (rdL T tTo (rdN T 0 w (rdAdv T r)).2)).2) else (0, w, r)
def hdW (T : List Nat) : Nat × RD := rdN T 1 8 (rdL T tBits (rdAdv T (0, -1, 0, 0, 0)))
def hdB (T : List Nat) : Nat × Nat × RD := hdA T (hdW T).1 (hdW T).2
def hdS (T : List Nat) : Nat × RD := rdN T 0 (2 ^ (hdW T).1 - 1) (rdL T tStart (hdB T).2.2)
def hdR (T : List Nat) : RD := rdS T 58 (hdS T).2
def tolB (T : List Nat) : List Nat × RD := if rK (hdR T) = 0 then rdB T (hdW T).1 (hdR T) else ([], hdR T)
def tolE (T : List Nat) : RD := rdS T 59 (tolB T).2
def tolR (T : List Nat) : RD := if rK (tolE T) = 0 ∧ rD (tolE T) ≠ 0 then rdBl 1 (rF (tolE T) : Nat) (tolE T) else tolE T
abbrev tolL (T : List Nat) : LB := ((hdW T).1, (hdB T).1, (hdB T).2.1, (hdS T).1, (tolB T).1)
theorem hdW_b (T : List Nat) : 1 ≤ (hdW T).1 ∧ (hdW T).1 ≤ 8 := rdN_b (by omega) _
theorem hd_ok0 (T : List Nat) : rdOk T (0, -1, 0, 0, 0) := ⟨Nat.le_refl _, Nat.zero_le _, fun q => (by cases q), fun q => (by cases q), Nat.zero_le _, Nat.zero_le _⟩
theorem hdW_ok (T : List Nat) : rdOk T (hdW T).2 := rdN_ok (rdL_ok (adv_ok (hd_ok0 T)))
theorem hdB_b (T : List Nat) : (hdB T).1 ≤ (hdB T).2.1 ∧ (hdB T).2.1 ≤ (hdW T).1 ∧ rdOk T (hdB T).2.2 := by
  unfold hdB hdA
  by_cases z : rK (hdW T).2 = 0 ∧ isL T tLevs (hdW T).2 = true
  · rw [if_pos z]
    have b1 := rdN_b (T := T) (lo := 0) (hi := (hdW T).1) (Nat.zero_le _) (rdAdv T (hdW T).2)
    have b2 := rdN_b (T := T) (lo := (rdN T 0 (hdW T).1 (rdAdv T (hdW T).2)).1) (hi := (hdW T).1) b1.2 (rdL T tTo (rdN T 0 (hdW T).1 (rdAdv T (hdW T).2)).2)
    exact ⟨b2.1, b2.2, rdN_ok (rdL_ok (rdN_ok (adv_ok (hdW_ok T))))⟩
  · rw [if_neg z]
    exact ⟨Nat.zero_le _, Nat.le_refl _, hdW_ok T⟩
theorem hdS_b (T : List Nat) : (hdS T).1 < 2 ^ (hdW T).1 ∧ rdOk T (hdS T).2 := by
  have b := rdN_b (T := T) (lo := 0) (hi := 2 ^ (hdW T).1 - 1) (Nat.zero_le _) (rdL T tStart (hdB T).2.2)
  have := Nat.two_pow_pos (hdW T).1
  have b : 0 ≤ (hdS T).1 ∧ (hdS T).1 ≤ 2 ^ (hdW T).1 - 1 := b
  exact ⟨by omega, rdN_ok (rdL_ok (hdB_b T).2.2)⟩
theorem hdR_ok (T : List Nat) : rdOk T (hdR T) := rdS_ok (hdS_b T).2
theorem tolB_ok (T : List Nat) : rdOk T (tolB T).2 ∧ (tolB T).1.length ≤ 256 ∧ ∀ x ∈ (tolB T).1, x < (hdW T).1 := by
  unfold tolB
  by_cases z : rK (hdR T) = 0
  · rw [if_pos z]; exact rdB_ok (hdR_ok T)
  · rw [if_neg z]; exact ⟨hdR_ok T, Nat.zero_le _, fun x hx => by cases hx⟩
theorem tolL_wf (T : List Nat) : wfL (tolL T) := by
  have w := hdW_b T
  have b := hdB_b T
  have s := hdS_b T
  have l := tolB_ok T
  exact ⟨⟨w.2, by show (hdB T).1 ≤ 8; omega, by show (hdB T).2.1 ≤ 8; omega, s.1, l.2.1, l.2.2⟩, w.1, b.1, b.2.1⟩
theorem RW.tr {σ0 σ σ' : HP} {T : List Nat} {r r' : RD} (h : RW σ0 σ T r) (h2 : RW σ σ' T r') : RW σ0 σ' T r' := ⟨⟨fun a j h3 => by rw [h2.1.1 a j h3]; exact h.1.1 a j h3, h2.1.2⟩, h2.2⟩
theorem s22 {d : Nat} (h : 9 ≤ d) {σ0 σ : HP} {T : List Nat} (ht0 : Txt σ0) (hR : RW σ0 σ T (rdAdv T (0, -1, 0, 0, 0))) : ∃ σ', clR PG0 MX d 22 [vR 79, vR 43] σ = some (0, σ') ∧ RX σ0 σ' T (hdR T) ∧ (rK (hdR T) = 0 → DB σ' ((hdW T).1, (hdB T).1, (hdB T).2.1, (hdS T).1, [])) := by
  obtain ⟨d, rfl⟩ := ob1 (show 1 ≤ d by omega)
  have hy := hR.lay
  have y1 := hy.1
  have a1 := y79_m1 hy
  have wb := hdW_b T
  have bb := hdB_b T
  have sb := hdS_b T
  have hp := pow8 wb.2
  have hp0 := Nat.two_pow_pos (hdW T).1
  obtain ⟨σ1, k1, R1⟩ := s23 (d := d) (by omega) hR ht0 (i := 5) (t := tBits) rfl
  obtain ⟨σ2, k2, R2⟩ := s26 (d := d) (by omega) R1 (lo := 1) (hi := 8) (by omega) (by omega)
  have R2 : RW σ0 σ2 T (hdW T).2 := R2
  have k1 : clR PG0 MX d 23 [vR 79, vR 7] σ = some (0, σ1) := k1
  have k2 : clR PG0 MX d 26 [vR 79, vI 1, vI 8] σ1 = some ((((hdW T).1 : Nat) : Int), σ2) := k2
  have y2 := R1.lay.1
  have b1 := y79_m1 R1.lay
  have y3 := R2.lay.1
  have b2 := y79_m1 R2.lay
  have o2 := R2.2.2.2.2.2.2.2.2
  have f4 := R2.2.1.2.2.2.1
  -- the levels
  have lev : ∃ σ3, (∀ X, rsP PG0 MX d 22 60 [vR 79, vR 43, vI ((hdW T).1 : Nat), vI ((hdB T).1 : Nat), vI ((hdB T).2.1 : Nat), vU] [] σ3 = X → clR PG0 MX (d + 1) 22 [vR 79, vR 43] σ = X) ∧ RW σ0 σ3 T (hdB T).2.2 := by
    have e24 := s24 (d := d) (by omega) R2 ht0 (i := 7) (t := tLevs) rfl
    have e24 : clR PG0 MX d 24 [vR 79, vR 9] σ2 = some (b2i (isL T tLevs (hdW T).2), σ2) := e24
    by_cases z0 : rK (hdW T).2 = 0
    · cases hb : isL T tLevs (hdW T).2 with
      | true =>
        rw [hb] at e24
        have eB : hdB T = ((rdN T 0 (hdW T).1 (rdAdv T (hdW T).2)).1, (rdN T (rdN T 0 (hdW T).1 (rdAdv T (hdW T).2)).1 (hdW T).1 (rdL T tTo (rdN T 0 (hdW T).1 (rdAdv T (hdW T).2)).2)).1, (rdN T (rdN T 0 (hdW T).1 (rdAdv T (hdW T).2)).1 (hdW T).1 (rdL T tTo (rdN T 0 (hdW T).1 (rdAdv T (hdW T).2)).2)).2) := by
          unfold hdB hdA
          rw [if_pos ⟨z0, hb⟩]
        obtain ⟨σ3, k3, R3⟩ := s18 (d := d) (by omega) R2
        obtain ⟨σ4, k4, R4⟩ := s26 (d := d) (by omega) R3 (lo := 0) (hi := (hdW T).1) (by omega) (by omega)
        obtain ⟨σ5, k5, R5⟩ := s23 (d := d) (by omega) R4 ht0 (i := 9) (t := tTo) rfl
        have bl := rdN_b (T := T) (lo := 0) (hi := (hdW T).1) (Nat.zero_le _) (rdAdv T (hdW T).2)
        obtain ⟨σ6, k6, R6⟩ := s26 (d := d) (by omega) R5 (lo := (rdN T 0 (hdW T).1 (rdAdv T (hdW T).2)).1) (hi := (hdW T).1) (by omega) (by omega)
        have k4 : clR PG0 MX d 26 [vR 79, vI 0, vI ((hdW T).1 : Nat)] σ3 = some ((((rdN T 0 (hdW T).1 (rdAdv T (hdW T).2)).1 : Nat) : Int), σ4) := k4
        have k5 : clR PG0 MX d 23 [vR 79, vR 11] σ4 = some (0, σ5) := k5
        have c1 := R3.lay.1
        have c2 := y79_m1 R3.lay
        have c3 := R4.lay.1
        have c4 := y79_m1 R4.lay
        have c5 := R5.lay.1
        have c6 := y79_m1 R5.lay
        rw [eB]
        refine ⟨σ6, fun X hX => ?_, R6⟩
        rw [ce_22, sg_22_0]
        repeat (first | ((with_reducible refine step_t ?_ ?_); with_reducible exact True.intro) | ((with_reducible refine step_t ?_ ?_); omega) | ((with_reducible refine step_f ?_ ?_); omega))
        refine step_c (k1) ?_
        try dsimp only
        repeat (first | ((with_reducible refine step_t ?_ ?_); with_reducible exact True.intro) | ((with_reducible refine step_t ?_ ?_); omega) | ((with_reducible refine step_f ?_ ?_); omega))
        refine step_c (k2) ?_
        try dsimp only
        (try simp (disch := omega) only [f4, wr_id2])
        repeat (first | ((with_reducible refine step_t ?_ ?_); with_reducible exact True.intro) | ((with_reducible refine step_t ?_ ?_); omega) | ((with_reducible refine step_f ?_ ?_); omega))
        refine step_c (e24) ?_
        try dsimp only
        rw [wr_b2i]
        refine step_f (show ¬ (b2i true = 0) by decide) ?_
        repeat (first | ((with_reducible refine step_t ?_ ?_); with_reducible exact True.intro) | ((with_reducible refine step_t ?_ ?_); omega) | ((with_reducible refine step_f ?_ ?_); omega))
        refine step_c (k3) ?_
        try dsimp only
        rw [sg_22_39]
        repeat (first | ((with_reducible refine step_t ?_ ?_); with_reducible exact True.intro) | ((with_reducible refine step_t ?_ ?_); omega) | ((with_reducible refine step_f ?_ ?_); omega))
        refine step_c (k4) ?_
        try dsimp only
        repeat (first | ((with_reducible refine step_t ?_ ?_); with_reducible exact True.intro) | ((with_reducible refine step_t ?_ ?_); omega) | ((with_reducible refine step_f ?_ ?_); omega))
        refine step_c (k5) ?_
        try dsimp only
        repeat (first | ((with_reducible refine step_t ?_ ?_); with_reducible exact True.intro) | ((with_reducible refine step_t ?_ ?_); omega) | ((with_reducible refine step_f ?_ ?_); omega))
        refine step_c (k6) ?_
        try dsimp only
        exact hX
      | false =>
        rw [hb] at e24
        have eB : hdB T = (0, (hdW T).1, (hdW T).2) := by
          unfold hdB hdA
          rw [if_neg (fun q => by rw [hb] at q; cases q.2)]
        rw [eB]
        refine ⟨σ2, fun X hX => ?_, R2⟩
        rw [ce_22, sg_22_0]
        repeat (first | ((with_reducible refine step_t ?_ ?_); with_reducible exact True.intro) | ((with_reducible refine step_t ?_ ?_); omega) | ((with_reducible refine step_f ?_ ?_); omega))
        refine step_c (k1) ?_
        try dsimp only
        repeat (first | ((with_reducible refine step_t ?_ ?_); with_reducible exact True.intro) | ((with_reducible refine step_t ?_ ?_); omega) | ((with_reducible refine step_f ?_ ?_); omega))
        refine step_c (k2) ?_
        try dsimp only
        (try simp (disch := omega) only [f4, wr_id2])
        repeat (first | ((with_reducible refine step_t ?_ ?_); with_reducible exact True.intro) | ((with_reducible refine step_t ?_ ?_); omega) | ((with_reducible refine step_f ?_ ?_); omega))
        refine step_c (e24) ?_
        try dsimp only
        rw [wr_b2i]
        refine step_t (show b2i false = 0 by decide) ?_
        exact hX
    · have eB : hdB T = (0, (hdW T).1, (hdW T).2) := by
        unfold hdB hdA
        rw [if_neg (fun q => z0 q.1)]
      rw [eB]
      refine ⟨σ2, fun X hX => ?_, R2⟩
      rw [ce_22, sg_22_0]
      repeat (first | ((with_reducible refine step_t ?_ ?_); with_reducible exact True.intro) | ((with_reducible refine step_t ?_ ?_); omega) | ((with_reducible refine step_f ?_ ?_); omega))
      refine step_c (k1) ?_
      try dsimp only
      repeat (first | ((with_reducible refine step_t ?_ ?_); with_reducible exact True.intro) | ((with_reducible refine step_t ?_ ?_); omega) | ((with_reducible refine step_f ?_ ?_); omega))
      refine step_c (k2) ?_
      try dsimp only
      (try simp (disch := omega) only [f4, wr_id2])
      repeat (first | ((with_reducible refine step_t ?_ ?_); with_reducible exact True.intro) | ((with_reducible refine step_t ?_ ?_); omega) | ((with_reducible refine step_f ?_ ?_); omega))
      exact hX
  obtain ⟨σ3, start, R3⟩ := lev
  obtain ⟨σ4, k4, R4⟩ := s23 (d := d) (by omega) R3 ht0 (i := 8) (t := tStart) rfl
  obtain ⟨σ5, k5, R5⟩ := s26 (d := d) (by omega) R4 (lo := 0) (hi := 2 ^ (hdW T).1 - 1) (by omega) (by omega)
  have R5 : RW σ0 σ5 T (hdS T).2 := R5
  obtain ⟨σ6, k6, R6⟩ := s27 (d := d) (by omega) R5 (c := 58) (by omega)
  have R6 : RW σ0 σ6 T (hdR T) := R6
  have k4 : clR PG0 MX d 23 [vR 79, vR 10] σ3 = some (0, σ4) := k4
  rw [show ((2 ^ (hdW T).1 - 1 : Nat) : Int) = ((2 ^ (hdW T).1 : Nat) : Int) - 1 by omega] at k5
  have k5 : clR PG0 MX d 26 [vR 79, vI 0, vI (((2 ^ (hdW T).1 : Nat) : Int) - 1)] σ4 = some ((((hdS T).1 : Nat) : Int), σ5) := k5
  have k6 : clR PG0 MX d 27 [vR 79, vI 58] σ5 = some (0, σ6) := k6
  have c1 := R3.lay.1
  have c2 := y79_m1 R3.lay
  have c3 := R4.lay.1
  have c4 := y79_m1 R4.lay
  have c5 := R5.lay.1
  have c6 := y79_m1 R5.lay
  have c7 := R6.lay.1
  have c8 := y79_m1 R6.lay
  have g4 := R6.2.1.2.2.2.1
  have o6 := (hdR_ok T).2.2.2.2.2
  have sh := shl1 (x := (hdW T).1) (by omega)
  by_cases z : rK (hdR T) = 0
  · obtain ⟨q1, q2, q3, -⟩ := yb_43 R6.lay
    obtain ⟨σ7, j1, j2, j3, j4⟩ := s28 (d := d) (by omega) (yb_43 R6.lay) (hdW T).1 (hdB T).1 (hdB T).2.1 (hdS T).1
    refine ⟨σ7, start _ ?_, R6.rx.ag3 j2 j3.1, fun _ => ⟨j3, ⟨wb.2, by show (hdB T).1 ≤ 8; omega, by show (hdB T).2.1 ≤ 8; omega, sb.1, Nat.zero_le _, fun b hb => by cases hb⟩, j4⟩⟩
    rw [sg_22_60, sh]
    repeat (first | ((with_reducible refine step_t ?_ ?_); with_reducible exact True.intro) | ((with_reducible refine step_t ?_ ?_); omega) | ((with_reducible refine step_f ?_ ?_); omega))
    refine step_c (k4) ?_
    try dsimp only
    repeat (first | ((with_reducible refine step_t ?_ ?_); with_reducible exact True.intro) | ((with_reducible refine step_t ?_ ?_); omega) | ((with_reducible refine step_f ?_ ?_); omega))
    refine step_c (k5) ?_
    try dsimp only
    repeat (first | ((with_reducible refine step_t ?_ ?_); with_reducible exact True.intro) | ((with_reducible refine step_t ?_ ?_); omega) | ((with_reducible refine step_f ?_ ?_); omega))
    refine step_c (k6) ?_
    try dsimp only
    (try simp (disch := omega) only [g4, wr_id2])
    repeat (first | ((with_reducible refine step_t ?_ ?_); with_reducible exact True.intro) | ((with_reducible refine step_t ?_ ?_); omega) | ((with_reducible refine step_f ?_ ?_); omega))
    refine step_c (j1) ?_
    try dsimp only
  · refine ⟨σ6, start _ ?_, R6.rx, fun q => absurd q z⟩
    rw [sg_22_60, sh]
    repeat (first | ((with_reducible refine step_t ?_ ?_); with_reducible exact True.intro) | ((with_reducible refine step_t ?_ ?_); omega) | ((with_reducible refine step_f ?_ ?_); omega))
    refine step_c (k4) ?_
    try dsimp only
    repeat (first | ((with_reducible refine step_t ?_ ?_); with_reducible exact True.intro) | ((with_reducible refine step_t ?_ ?_); omega) | ((with_reducible refine step_f ?_ ?_); omega))
    refine step_c (k5) ?_
    try dsimp only
    repeat (first | ((with_reducible refine step_t ?_ ?_); with_reducible exact True.intro) | ((with_reducible refine step_t ?_ ?_); omega) | ((with_reducible refine step_f ?_ ?_); omega))
    refine step_c (k6) ?_
    try dsimp only
    (try simp (disch := omega) only [g4, wr_id2])
    repeat (first | ((with_reducible refine step_t ?_ ?_); with_reducible exact True.intro) | ((with_reducible refine step_t ?_ ?_); omega) | ((with_reducible refine step_f ?_ ?_); omega))
    rfl
theorem s17 {d : Nat} (h : 10 ≤ d) {σ : HP} {T : List Nat} (hy : Lay σ) (ht : Txt σ) (hT : byR σ 80 81 400 T) : ∃ σ', clR PG0 MX d 17 [vR 79, vR 43] σ = some (b2i (decide (rK (tolR T) = 0)), σ') ∧ RX σ σ' T (tolR T) ∧ (rK (tolR T) = 0 → DB σ' (tolL T)) := by
  obtain ⟨d, rfl⟩ := ob1 (show 1 ≤ d by omega)
  have y1 := hy.1
  have a1 := y79_m1 hy
  have F1 : FR σ (up σ 79 4 0) := (show FR σ σ from ⟨fun _ _ _ => rfl, hy⟩).upc okc_4
  have F2 : FR σ (up (up σ 79 4 0) 79 5 (-1)) := F1.upc okc_5
  have F3 : FR σ (up (up (up σ 79 4 0) 79 5 (-1)) 79 3 0) := F2.upc okc_3
  have h1 := F1.2
  have b1 := h1.1
  have b2 := y79_m1 h1
  have h2 := F2.2
  have b3 := h2.1
  have b4 := y79_m1 h2
  have h3 := F3.2
  have b5 := h3.1
  have b6 := y79_m1 h3
  have hT3 := byT_up (byT_up (byT_up hT 4 0) 5 (-1)) 3 0
  -- the kind and the place from before play no part
  obtain ⟨σ1, k1, R1⟩ := s18x (d := d) (by omega) (r := (0, -1, 0, 0, 0)) F3 (up_s _ _ _ _) (by rw [up_n2 _ _ _ _ (by omega), up_n2 _ _ _ _ (by omega), up_s]; rfl) (by rw [up_n2 _ _ _ _ (by omega), up_s]) hT3 (hd_ok0 T)
  obtain ⟨σ2, k2, R2, D2⟩ := s22 (d := d) (by omega) ht R1
  have c1 := R1.lay.1
  have c2 := y79_m1 R1.lay
  have hy2 := R2.1.2
  have c3 := hy2.1
  have c4 := y79_m1 hy2
  have g4 := R2.2.1.2.2.2.1
  have o4 := (hdR_ok T).2.2.2.2.2
  have bits : ∃ σ3, (∀ X, rsP PG0 MX d 17 36 [vR 79, vR 43] [] σ3 = X → clR PG0 MX (d + 1) 17 [vR 79, vR 43] σ = X) ∧ RX σ σ3 T (tolB T).2 ∧ (rK (hdR T) = 0 → DB σ3 (tolL T)) := by
    unfold tolL tolB
    by_cases z : rK (hdR T) = 0
    · rw [if_pos z]
      obtain ⟨σ3, k3, R3, D3⟩ := s29 (d := d) (by omega) z R2 (D2 z)
      obtain ⟨q1, q2, q3, -⟩ := yb_43 hy2
      refine ⟨σ3, fun X hX => ?_, R3, fun _ => D3⟩
      rw [ce_17, sg_17_0]
      repeat (first | ((with_reducible refine step_t ?_ ?_); with_reducible exact True.intro) | ((with_reducible refine step_t ?_ ?_); omega) | ((with_reducible refine step_f ?_ ?_); omega))
      refine step_c (k1) ?_
      try dsimp only
      repeat (first | ((with_reducible refine step_t ?_ ?_); with_reducible exact True.intro) | ((with_reducible refine step_t ?_ ?_); omega) | ((with_reducible refine step_f ?_ ?_); omega))
      refine step_c (k2) ?_
      try dsimp only
      (try simp (disch := omega) only [g4, wr_id2])
      repeat (first | ((with_reducible refine step_t ?_ ?_); with_reducible exact True.intro) | ((with_reducible refine step_t ?_ ?_); omega) | ((with_reducible refine step_f ?_ ?_); omega))
      refine step_c (k3) ?_
      try dsimp only
      exact hX
    · rw [if_neg z]
      refine ⟨σ2, fun X hX => ?_, R2, fun q => absurd q z⟩
      rw [ce_17, sg_17_0]
      repeat (first | ((with_reducible refine step_t ?_ ?_); with_reducible exact True.intro) | ((with_reducible refine step_t ?_ ?_); omega) | ((with_reducible refine step_f ?_ ?_); omega))
      refine step_c (k1) ?_
      try dsimp only
      repeat (first | ((with_reducible refine step_t ?_ ?_); with_reducible exact True.intro) | ((with_reducible refine step_t ?_ ?_); omega) | ((with_reducible refine step_f ?_ ?_); omega))
      refine step_c (k2) ?_
      try dsimp only
      (try simp (disch := omega) only [g4, wr_id2])
      repeat (first | ((with_reducible refine step_t ?_ ?_); with_reducible exact True.intro) | ((with_reducible refine step_t ?_ ?_); omega) | ((with_reducible refine step_f ?_ ?_); omega))
      exact hX
  obtain ⟨σ3, start, R3, D3⟩ := bits
  have hy3 := R3.1.2
  have c5 := hy3.1
  have c6 := y79_m1 hy3
  obtain ⟨σ4, k4, R4⟩ := s27 (d := d) (by omega) R3.rw (c := 59) (by omega)
  have k4 : clR PG0 MX d 27 [vR 79, vI 59] σ3 = some (0, σ4) := k4
  have R4x : RX σ σ4 T (tolE T) := R3.tr R4
  have D4 : rK (hdR T) = 0 → DB σ4 (tolL T) := fun q => (D3 q).rw R4
  have hy4 := R4.lay
  have c7 := hy4.1
  have c8 := y79_m1 hy4
  obtain ⟨t1, t2, t3, t4, t5⟩ := R4x.2.1
  have o5 := R4x.2.2.2.2.2.2.2.1
  have o6 := R4x.2.2.2.2.2.2.2.2
  have o1 := R4x.2.2.2.1
  have o2 := R4x.2.2.2.2.1
  have l2 := R4x.2.2.1.2.1
  -- behind a fault nothing is read any more
  have nof : rK (tolR T) = 0 → rK (hdR T) = 0 := by
    intro q
    by_cases z : rK (hdR T) = 0
    · exact z
    · exfalso
      have e1 : tolB T = ([], hdR T) := by unfold tolB; rw [if_neg z]
      have e2 : tolE T = hdR T := by unfold tolE; rw [e1]; unfold rdS; rw [if_pos z]
      have e3 : tolR T = hdR T := by unfold tolR; rw [e2, if_neg (fun w => z w.1)]
      rw [e3] at q
      exact z q
  have last : ∃ σ5, (∀ X, rsP PG0 MX d 17 65 [vR 79, vU] [] σ5 = X → clR PG0 MX (d + 1) 17 [vR 79, vR 43] σ = X) ∧ RX σ σ5 T (tolR T) ∧ (rK (hdR T) = 0 → DB σ5 (tolL T)) := by
    unfold tolR
    by_cases z : rK (tolE T) = 0
    · by_cases z2 : rD (tolE T) = 0
      · rw [if_neg (fun q => q.2 z2)]
        refine ⟨σ4, fun X hX => start X ?_, R4x, D4⟩
        rw [sg_17_36]
        repeat (first | ((with_reducible refine step_t ?_ ?_); with_reducible exact True.intro) | ((with_reducible refine step_t ?_ ?_); omega) | ((with_reducible refine step_f ?_ ?_); omega))
        refine step_c (k4) ?_
        try dsimp only
        (try simp (disch := omega) only [t4, t1, wr_id2])
        repeat (first | ((with_reducible refine step_t ?_ ?_); with_reducible exact True.intro) | ((with_reducible refine step_t ?_ ?_); omega) | ((with_reducible refine step_f ?_ ?_); omega))
        exact hX
      · rw [if_pos ⟨z, z2⟩]
        obtain ⟨σ5, k5, R5⟩ := s25 (d := d) (by omega) R4x.rw (k := 1) (by omega) (rF (tolE T) : Nat)
        have k5 : clR PG0 MX d 25 [vR 79, vI 1, vI (rF (tolE T) : Nat)] σ4 = some (0, σ5) := k5
        refine ⟨σ5, fun X hX => start X ?_, R4x.tr R5, fun q => (D4 q).rw R5⟩
        rw [sg_17_36]
        repeat (first | ((with_reducible refine step_t ?_ ?_); with_reducible exact True.intro) | ((with_reducible refine step_t ?_ ?_); omega) | ((with_reducible refine step_f ?_ ?_); omega))
        refine step_c (k4) ?_
        try dsimp only
        (try simp (disch := omega) only [t4, t1, t2, wr_id2])
        repeat (first | ((with_reducible refine step_t ?_ ?_); with_reducible exact True.intro) | ((with_reducible refine step_t ?_ ?_); omega) | ((with_reducible refine step_f ?_ ?_); omega))
        refine step_c (k5) ?_
        try dsimp only
        exact hX
    · rw [if_neg (fun q => z q.1)]
      refine ⟨σ4, fun X hX => start X ?_, R4x, D4⟩
      rw [sg_17_36]
      repeat (first | ((with_reducible refine step_t ?_ ?_); with_reducible exact True.intro) | ((with_reducible refine step_t ?_ ?_); omega) | ((with_reducible refine step_f ?_ ?_); omega))
      refine step_c (k4) ?_
      try dsimp only
      (try simp (disch := omega) only [t4, t1, wr_id2])
      repeat (first | ((with_reducible refine step_t ?_ ?_); with_reducible exact True.intro) | ((with_reducible refine step_t ?_ ?_); omega) | ((with_reducible refine step_f ?_ ?_); omega))
      exact hX
  obtain ⟨σ5, start2, R5, D5⟩ := last
  have hy5 := R5.1.2
  have c9 := hy5.1
  have c10 := y79_m1 hy5
  have u4 := R5.2.1.2.2.2.1
  have o7 := R5.2.2.2.2.2.2.2.2
  refine ⟨σ5, start2 _ ?_, R5, fun q => D5 (nof q)⟩
  rw [sg_17_65]
  (try simp (disch := omega) only [u4, wr_id2])
  repeat (first | ((with_reducible refine step_t ?_ ?_); with_reducible exact True.intro) | ((with_reducible refine step_t ?_ ?_); omega) | ((with_reducible refine step_f ?_ ?_); omega))
  by_cases z : rK (tolR T) = 0
  · rw [decide_eq_true z]
    refine step_f (by omega) ?_
    rfl
  · rw [decide_eq_false z]
    refine step_t (by omega) ?_
    rfl
