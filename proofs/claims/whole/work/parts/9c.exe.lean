/-! EXTEND: the reference -/
theorem pow63 {n : Nat} (h : n ≤ 63) : 2 ^ n ≤ 9223372036854775808 := Nat.pow_le_pow_right (show 0 < 2 by decide) h
theorem s250e {d : Nat} (h : 40 ≤ d) {σ σ1 : HP} {S : AS} (hm : MM σ S) {n : Nat} (hn : n < 3) {L : LB} (hw : wf0 L) (en : S.sl n = some L) (h6 : lN0 L ≤ 6) (h1 : 1 ≤ (lT L).length) (h64 : (lT L).length ≤ 64) {c : Int} (hr : slR σ n L) (hD : DM σ σ1 (exL L c)) (u3 u4 : MV) : ∃ σ', rsP PG0 MX d 250 87 [vR 101, vI n, vL c, u3, u4, vI (lN0 L : Nat)] [] σ1 = some (((lN0 L + 2 : Nat) : Int), σ') ∧ FM σ σ' ∧ MM σ' (setl S n (some (emL L (exL L c)))) := by
  have e3 := s181 (d := d) (by omega) hD.1.2 hn (j := 3) (by omega) (by omega)
  rw [(hD.1.slr hr).2.2.2.1] at e3
  obtain ⟨σ2, i1, i2, i3, i4, i5, i6⟩ := s182 (d := d) (by omega) hD.1.2 (hD.1.fq.mr hm) (s := n) hn hD.2 (o := some (emL L (exL L c))) (a := ((lN0 L + 2 : Nat) : Int)) (b := 0) (c := ((lN0 L + 2 : Nat) : Int)) (e := ((lS L : Nat) : Int)) rfl rfl rfl rfl rfl (fun i _ => encA_st _ i)
  obtain ⟨σ3, j1, j2, j3⟩ := s184 (d := d) (by omega) i2.2 i3 (s := n) hn i4 i5 hm.wf (fun Q e => by cases e; exact exL_wf hw h6 h1 h64) ((lN0 L + 2 : Nat) : Int)
  have ne : ¬ S.sl n = some (emL L (exL L c)) := fun q => by
    rw [en] at q
    have q : lN0 L = lN0 L + 2 := congrArg (fun z : Option LB => match z with | some M => lN0 M | none => 0) q
    omega
  have e : setl S n (some (emL L (exL L c))) = actS S n (some (emL L (exL L c))) := by unfold setl; rw [if_neg ne]
  have y2 := hD.1.2
  have y1c := y2.1; have k101c := y101_m1 y2
  have y3 := i2.2
  have y1d := y3.1; have k101d := y101_m1 y3
  rw [show ((lN0 L + 2 : Nat) : Int) = (lN0 L : Nat) + 2 by omega] at i1 j1
  refine ⟨σ3, ?_, (hD.1.fq.fm.tr i2).tr j2, by rw [e]; exact j3⟩
  rw [sg_250_87]
  repeat (first | ((with_reducible refine step_t ?_ ?_); with_reducible exact True.intro) | ((with_reducible refine step_t ?_ ?_); omega) | ((with_reducible refine step_f ?_ ?_); omega))
  refine step_c (e3) ?_
  try dsimp only
  repeat (first | ((with_reducible refine step_t ?_ ?_); with_reducible exact True.intro) | ((with_reducible refine step_t ?_ ?_); omega) | ((with_reducible refine step_f ?_ ?_); omega))
  refine step_c (i1) ?_
  try dsimp only
  repeat (first | ((with_reducible refine step_t ?_ ?_); with_reducible exact True.intro) | ((with_reducible refine step_t ?_ ?_); omega) | ((with_reducible refine step_f ?_ ?_); omega))
  refine step_c (j1) ?_
  try dsimp only
  rfl
theorem s250b {d : Nat} (h : 50 ≤ d) {σ : HP} {S : AS} (hy : Lay σ) (hm : MM σ S) {n : Nat} (hn : n < 3) {L : LB} (hr : slR σ n L) (hw : wf0 L) (en : S.sl n = some L) {c : Int} (hP : 64 ≤ (lT L).length - 1 ∨ lu c / 2 ^ ((lT L).length - 1) = 0) (u3 u4 u5 : MV) : ∃ σ', rsP PG0 MX d 250 40 [vR 101, vI n, vL c, u3, u4, u5] [] σ = some ((extQ c L).1, σ') ∧ FM σ σ' ∧ MM σ' (match (extQ c L).2 with | none => S | some M => setl S n (some M)) := by
  have y1 := hy.1; have k101 := y101_m1 hy
  have h9 := hw.1
  have e251 := s251 (d := d) (by omega) σ c
  have p64 := pc_64 64 (lu c)
  have er := i_rem_n (a := pcN 64 (lu c)) (b := 2) (by omega) (by omega) (by omega)
  have er : i_rem ((pcN 64 (lu c) : Nat) : Int) 2 = ((pcN 64 (lu c) % 2 : Nat) : Int) := er
  have e207 := s207 (d := d) (by omega) hy hn hr
  have ez : (decide (64 ≤ (lT L).length - 1) || decide (lu c / 2 ^ ((lT L).length - 1) = 0)) = true := by
    rw [Bool.or_eq_true]
    exact hP.imp (fun q => decide_eq_true q) (fun q => decide_eq_true q)
  unfold extQ cutB
  rw [ez, Bool.true_and]
  by_cases zp : pcN 64 (lu c) % 2 = 0
  · rw [if_pos (decide_eq_true zp)]
    by_cases z6 : lN0 L ≤ 6
    · rw [if_pos z6]
      obtain ⟨σ1, k1, F1⟩ := s252 (d := d) (by omega) hy hn hr hw
      cases zw : wlB L with
      | false =>
        rw [zw] at k1
        rw [if_neg (by decide)]
        refine ⟨σ1, ?_, F1.fm, F1.mr hm⟩
        rw [sg_250_40]
        repeat (first | ((with_reducible refine step_t ?_ ?_); with_reducible exact True.intro) | ((with_reducible refine step_t ?_ ?_); omega) | ((with_reducible refine step_f ?_ ?_); omega))
        refine step_c (e251) ?_
        try dsimp only
        rw [er]
        (try simp (disch := omega) only [wr_id2])
        repeat (first | ((with_reducible refine step_t ?_ ?_); with_reducible exact True.intro) | ((with_reducible refine step_t ?_ ?_); omega) | ((with_reducible refine step_f ?_ ?_); omega))
        refine step_c (e207) ?_
        try dsimp only
        (try simp (disch := omega) only [wr_id2])
        repeat (first | ((with_reducible refine step_t ?_ ?_); with_reducible exact True.intro) | ((with_reducible refine step_t ?_ ?_); omega) | ((with_reducible refine step_f ?_ ?_); omega))
        refine step_c (k1) ?_
        try dsimp only
        rw [wr_b2i]
        refine step_f (show ¬ (b2i false ≠ 0) by decide) ?_
        rfl
      | true =>
        rw [zw] at k1
        rw [if_pos rfl]
        obtain ⟨w1, w2⟩ := wl_len hw zw
        have w3 := pow6 z6
        have hc : lu c < 9223372036854775808 := by
          rcases hP with q | q
          · omega
          · have a := pow63 (n := (lT L).length - 1) (by omega)
            have b := Nat.lt_of_div_eq_zero (Nat.two_pow_pos _) q
            omega
        obtain ⟨σ2, k2, D2⟩ := s253 (d := d) (by omega) F1.2 hn (F1.slr hr) hw w1 (by omega) hc
        obtain ⟨σ3, k3, F3, M3⟩ := s250e (d := d) (by omega) (F1.mr hm) hn hw en z6 w1 (by omega) (F1.slr hr) D2 vU vU
        have hy1 := F1.2
        have y1b := hy1.1; have k101b := y101_m1 hy1
        refine ⟨σ3, ?_, F1.fm.tr F3, M3⟩
        rw [sg_250_40]
        repeat (first | ((with_reducible refine step_t ?_ ?_); with_reducible exact True.intro) | ((with_reducible refine step_t ?_ ?_); omega) | ((with_reducible refine step_f ?_ ?_); omega))
        refine step_c (e251) ?_
        try dsimp only
        rw [er]
        (try simp (disch := omega) only [wr_id2])
        repeat (first | ((with_reducible refine step_t ?_ ?_); with_reducible exact True.intro) | ((with_reducible refine step_t ?_ ?_); omega) | ((with_reducible refine step_f ?_ ?_); omega))
        refine step_c (e207) ?_
        try dsimp only
        (try simp (disch := omega) only [wr_id2])
        repeat (first | ((with_reducible refine step_t ?_ ?_); with_reducible exact True.intro) | ((with_reducible refine step_t ?_ ?_); omega) | ((with_reducible refine step_f ?_ ?_); omega))
        refine step_c (k1) ?_
        try dsimp only
        rw [wr_b2i]
        refine step_t (show b2i true ≠ 0 by decide) ?_
        repeat (first | ((with_reducible refine step_t ?_ ?_); with_reducible exact True.intro) | ((with_reducible refine step_t ?_ ?_); omega) | ((with_reducible refine step_f ?_ ?_); omega))
        refine step_c (k2) ?_
        try dsimp only
        exact k3
    · rw [if_neg z6]
      refine ⟨σ, ?_, FM.rf hy, hm⟩
      rw [sg_250_40]
      repeat (first | ((with_reducible refine step_t ?_ ?_); with_reducible exact True.intro) | ((with_reducible refine step_t ?_ ?_); omega) | ((with_reducible refine step_f ?_ ?_); omega))
      refine step_c (e251) ?_
      try dsimp only
      rw [er]
      (try simp (disch := omega) only [wr_id2])
      repeat (first | ((with_reducible refine step_t ?_ ?_); with_reducible exact True.intro) | ((with_reducible refine step_t ?_ ?_); omega) | ((with_reducible refine step_f ?_ ?_); omega))
      refine step_c (e207) ?_
      try dsimp only
      (try simp (disch := omega) only [wr_id2])
      repeat (first | ((with_reducible refine step_t ?_ ?_); with_reducible exact True.intro) | ((with_reducible refine step_t ?_ ?_); omega) | ((with_reducible refine step_f ?_ ?_); omega))
      rfl
  · rw [if_neg (fun q => zp (of_decide_eq_true q))]
    refine ⟨σ, ?_, FM.rf hy, hm⟩
    rw [sg_250_40]
    repeat (first | ((with_reducible refine step_t ?_ ?_); with_reducible exact True.intro) | ((with_reducible refine step_t ?_ ?_); omega) | ((with_reducible refine step_f ?_ ?_); omega))
    refine step_c (e251) ?_
    try dsimp only
    rw [er]
    (try simp (disch := omega) only [wr_id2])
    repeat (first | ((with_reducible refine step_t ?_ ?_); with_reducible exact True.intro) | ((with_reducible refine step_t ?_ ?_); omega) | ((with_reducible refine step_f ?_ ?_); omega))
    rfl
theorem ext_no {L : LB} {c : Int} (h1 : ¬ 64 ≤ (lT L).length - 1) (h2 : ¬ lu c / 2 ^ ((lT L).length - 1) = 0) : extQ c L = (-2, none) := by
  unfold extQ cutB
  rw [decide_eq_false h1, decide_eq_false h2]
  rfl
theorem m250 (S : AS) {s c : Int} (hs : i32 s) : mOp 250 [vI s, vL c] S (aA S s (extQ c)) := by
  intro d σ h hy ht hm
  obtain ⟨d, rfl⟩ := ob1 (show 1 ≤ d by omega)
  have y1 := hy.1; have k101 := y101_m1 hy; have p102 := y101_0 hy; have k102 := y102_m1 hy; have l102 := y102_m2 hy; have p107 := y101_15 hy; have k107 := y107_m1 hy; have l107 := y107_m2 hy; have p108 := y101_16 hy; have k108 := y108_m1 hy; have l108 := y108_m2 hy
  unfold aA
  cases e : gl S s with
  | none =>
    refine ⟨σ, ?_, (FM.rf hy).fl, hm⟩
    rw [ce_250, sg_250_0]
    repeat (first | ((with_reducible refine step_t ?_ ?_); with_reducible exact True.intro) | ((with_reducible refine step_t ?_ ?_); omega) | ((with_reducible refine step_f ?_ ?_); omega))
    refine step_c (s180n (by omega) hy hm hs e) ?_
    try dsimp only
    (try simp (disch := omega) only [wr_id2])
    repeat (first | ((with_reducible refine step_t ?_ ?_); with_reducible exact True.intro) | ((with_reducible refine step_t ?_ ?_); omega) | ((with_reducible refine step_f ?_ ?_); omega))
    rfl
  | some L =>
    have e180 := s180s (d := d) (by omega) hy hm hs e
    obtain ⟨n, rfl, hn, hr, hw, en⟩ := hm.got e
    have hl := wf_len hw.1
    have h9 := hw.1.1
    have h1N := hw.2.1
    have hp8 := pow8 hw.1.1
    have hp0 := Nat.two_pow_pos (lN0 L)
    have hsh := shN_le L
    dsimp only
    have e204 := s204 (d := d) (by omega) hy hn hr
    have em : (if wr 0 < wr (((lT L).length : Nat) - 1 : Int) then (((lT L).length : Nat) : Int) - 1 else (0 : Int)) = (((lT L).length - 1 : Nat) : Int) := by
      rw [wr_id2 (x := ((lT L).length : Nat) - 1) (by omega), wr_0]
      by_cases q : 0 < ((lT L).length : Int) - 1
      · rw [if_pos q]; omega
      · rw [if_neg q]; omega
    rw [tnn]
    suffices hh : ∃ σ', clR PG0 MX (d + 1) 250 [vR 101, vI n, vL c] σ = some ((extQ c L).1, σ') ∧ FM σ σ' ∧ MM σ' (match (extQ c L).2 with | none => S | some M => setl S n (some M)) by
      obtain ⟨σ1, k1, F1, M1⟩ := hh
      generalize extQ c L = q at *
      rcases q with ⟨r, _ | M⟩
      · exact ⟨σ1, k1, F1.fl, M1⟩
      · exact ⟨σ1, k1, F1.fl, M1⟩
    by_cases z : 64 ≤ (lT L).length - 1
    · obtain ⟨σ1, k1, F1, M1⟩ := s250b (d := d) (by omega) hy hm hn hr hw.1 en (c := c) (Or.inl z) vU (vI (((lT L).length - 1 : Nat) : Int)) vU
      refine ⟨σ1, ?_, F1, M1⟩
      rw [ce_250, sg_250_0]
      repeat (first | ((with_reducible refine step_t ?_ ?_); with_reducible exact True.intro) | ((with_reducible refine step_t ?_ ?_); omega) | ((with_reducible refine step_f ?_ ?_); omega))
      refine step_c (e180) ?_
      try dsimp only
      (try simp (disch := omega) only [wr_id2])
      repeat (first | ((with_reducible refine step_t ?_ ?_); with_reducible exact True.intro) | ((with_reducible refine step_t ?_ ?_); omega) | ((with_reducible refine step_f ?_ ?_); omega))
      refine step_c (e204) ?_
      try dsimp only
      repeat (first | ((with_reducible refine step_t ?_ ?_); with_reducible exact True.intro) | ((with_reducible refine step_t ?_ ?_); omega) | ((with_reducible refine step_f ?_ ?_); omega))
      refine step_c (p_max (by omega) σ _ _) ?_
      try dsimp only
      rw [em]
      (try simp (disch := omega) only [wr_id2])
      repeat (first | ((with_reducible refine step_t ?_ ?_); with_reducible exact True.intro) | ((with_reducible refine step_t ?_ ?_); omega) | ((with_reducible refine step_f ?_ ?_); omega))
      exact k1
    · by_cases z2 : lu c / 2 ^ ((lT L).length - 1) = 0
      · obtain ⟨σ1, k1, F1, M1⟩ := s250b (d := d) (by omega) hy hm hn hr hw.1 en (c := c) (Or.inr z2) vU (vI (((lT L).length - 1 : Nat) : Int)) vU
        have ec : l_cmp (l_ushr c (((lT L).length - 1 : Nat) : Int)) 0 = 0 := (l_cmp0 _).1.mpr (by rw [lu_ushr (by omega)]; exact z2)
        refine ⟨σ1, ?_, F1, M1⟩
        rw [ce_250, sg_250_0]
        repeat (first | ((with_reducible refine step_t ?_ ?_); with_reducible exact True.intro) | ((with_reducible refine step_t ?_ ?_); omega) | ((with_reducible refine step_f ?_ ?_); omega))
        refine step_c (e180) ?_
        try dsimp only
        (try simp (disch := omega) only [wr_id2])
        repeat (first | ((with_reducible refine step_t ?_ ?_); with_reducible exact True.intro) | ((with_reducible refine step_t ?_ ?_); omega) | ((with_reducible refine step_f ?_ ?_); omega))
        refine step_c (e204) ?_
        try dsimp only
        repeat (first | ((with_reducible refine step_t ?_ ?_); with_reducible exact True.intro) | ((with_reducible refine step_t ?_ ?_); omega) | ((with_reducible refine step_f ?_ ?_); omega))
        refine step_c (p_max (by omega) σ _ _) ?_
        try dsimp only
        rw [em]
        (try simp (disch := omega) only [wr_id2])
        repeat (first | ((with_reducible refine step_t ?_ ?_); with_reducible exact True.intro) | ((with_reducible refine step_t ?_ ?_); omega) | ((with_reducible refine step_f ?_ ?_); omega))
        exact k1
      · rw [ext_no z z2]
        have ec : l_cmp (l_ushr c (((lT L).length - 1 : Nat) : Int)) 0 ≠ 0 := fun q => z2 (by rw [← lu_ushr (by omega)]; exact (l_cmp0 _).1.mp q)
        obtain ⟨ei1, ei2⟩ := (l_cmp0 (l_ushr c (((lT L).length - 1 : Nat) : Int))).2
        refine ⟨σ, ?_, FM.rf hy, hm⟩
        rw [ce_250, sg_250_0]
        repeat (first | ((with_reducible refine step_t ?_ ?_); with_reducible exact True.intro) | ((with_reducible refine step_t ?_ ?_); omega) | ((with_reducible refine step_f ?_ ?_); omega))
        refine step_c (e180) ?_
        try dsimp only
        (try simp (disch := omega) only [wr_id2])
        repeat (first | ((with_reducible refine step_t ?_ ?_); with_reducible exact True.intro) | ((with_reducible refine step_t ?_ ?_); omega) | ((with_reducible refine step_f ?_ ?_); omega))
        refine step_c (e204) ?_
        try dsimp only
        repeat (first | ((with_reducible refine step_t ?_ ?_); with_reducible exact True.intro) | ((with_reducible refine step_t ?_ ?_); omega) | ((with_reducible refine step_f ?_ ?_); omega))
        refine step_c (p_max (by omega) σ _ _) ?_
        try dsimp only
        rw [em]
        (try simp (disch := omega) only [wr_id2])
        repeat (first | ((with_reducible refine step_t ?_ ?_); with_reducible exact True.intro) | ((with_reducible refine step_t ?_ ?_); omega) | ((with_reducible refine step_f ?_ ?_); omega))
        rfl
