/-! MAKING LISTS BY RULES: the class -/
abbrev dlL (L : LB) (x : Nat) (l : List Nat) : LB := (lN0 L, lA L, lB L, x, l)
def rflF : Nat → Nat → List Nat
  | 0, _ => []
  | m + 1, i => lowN 31 i :: rflF m (i + 1)
theorem rflF_len : ∀ m i, (rflF m i).length = m := by
  intro m
  induction m with
  | zero => intro i; rfl
  | succ m ih => intro i; show (rflF m (i + 1)).length + 1 = m + 1; rw [ih]
theorem low_lt {i N : Nat} (h0 : 0 < i) (h : i < 2 ^ N) (hN : N ≤ 8) : lowN 31 i < N := by
  have h8 := pow8 hN
  obtain ⟨y, e, _⟩ := low_sp 31 i h0 (by omega)
  have h1 : 2 ^ lowN 31 i ≤ i := by
    have : 2 ^ lowN 31 i * 1 ≤ 2 ^ lowN 31 i * (2 * y + 1) := Nat.mul_le_mul_left _ (by omega)
    omega
  exact (Nat.pow_lt_pow_iff_right (a := 2) (by omega)).mp (by omega)
theorem rflF_lt {N : Nat} (hN : N ≤ 8) : ∀ m i, 0 < i → i + m = 2 ^ N → ∀ x ∈ rflF m i, x < N := by
  intro m
  induction m with
  | zero => intro i h1 h2 x hx; cases hx
  | succ m ih =>
    intro i h1 h2 x hx
    rcases List.mem_cons.mp hx with e | e
    · rw [e]; exact low_lt h1 (by omega) hN
    · exact ih (i + 1) (by omega) (by omega) x e
/-- reflected -/
theorem s103l {d : Nat} (h : 2 ≤ d) {σ0 : HP} {b : Int} {L : LB} (hb0 : blr σ0 b L) (hb43 : b + 2 < 43) (hw : wfL L) {s : Nat} : ∀ (m i : Nat) (σ : HP) (l : List Nat), 0 < i → i + m = 2 ^ lN0 L → DW σ0 σ (dlL L s l) → l.length + m + 1 ≤ 256 → ∃ σ', rsP PG0 MX d 103 13 [vR b, vR 43, vI i] [] σ = some (0, σ') ∧ DW σ0 σ' (dlL L s (l ++ (rflF m i ++ [lN0 L - 1]))) := by
  have h8 := pow8 hw.1.1
  have h9 := hw.1.1
  have h1 := hw.2.1
  intro m
  induction m with
  | zero =>
    intro i σ l h0 hi hD hl
    have hb := hD.blr hb0 hb43
    obtain ⟨⟨m1, m2, m3, m4, m5, m6, m7, m8, m9⟩, f3, f4, f5, f6, fs, fw⟩ := id hb
    obtain ⟨z5, z6, z7, -⟩ := yb_43 hD.fs.2
    obtain ⟨σ1, k1, D1⟩ := dw_push (d := d) (by omega) hD (x := lN0 L - 1) (by show lN0 L - 1 < lN0 L; omega) (by show l.length < 256; omega)
    rw [show ((lN0 L - 1 : Nat) : Int) = (lN0 L : Nat) - 1 by omega] at k1
    refine ⟨σ1, ?_, D1⟩
    rw [sg_103_13]
    repeat (first | ((with_reducible refine step_t ?_ ?_); with_reducible exact True.intro) | ((with_reducible refine step_t ?_ ?_); omega) | ((with_reducible refine step_f ?_ ?_); omega))
    refine step_c (s47 (by omega) hb hw.1) ?_
    try dsimp only
    (try simp (disch := omega) only [f3, wr_id2])
    repeat (first | ((with_reducible refine step_t ?_ ?_); with_reducible exact True.intro) | ((with_reducible refine step_t ?_ ?_); omega) | ((with_reducible refine step_f ?_ ?_); omega))
    refine step_c (k1) ?_
    try dsimp only
  | succ m ih =>
    intro i σ l h0 hi hD hl
    have hb := hD.blr hb0 hb43
    obtain ⟨⟨m1, m2, m3, m4, m5, m6, m7, m8, m9⟩, f3, f4, f5, f6, fs, fw⟩ := id hb
    obtain ⟨z5, z6, z7, -⟩ := yb_43 hD.fs.2
    have hlt := low_lt h0 (show i < 2 ^ lN0 L by omega) h9
    obtain ⟨σ1, k1, D1⟩ := dw_push (d := d) (by omega) hD (x := lowN 31 i) hlt (by show l.length < 256; omega)
    obtain ⟨σ2, j1, D2⟩ := ih (i + 1) σ1 (l ++ [lowN 31 i]) (by omega) (by omega) D1 (by rw [List.length_append]; show l.length + 1 + m + 1 ≤ 256; omega)
    have ed : l ++ (rflF (m + 1) i ++ [lN0 L - 1]) = l ++ [lowN 31 i] ++ (rflF m (i + 1) ++ [lN0 L - 1]) := by
      show l ++ (lowN 31 i :: rflF m (i + 1) ++ [lN0 L - 1]) = _
      simp only [List.append_assoc, List.cons_append, List.nil_append]
    rw [ed]
    refine ⟨σ2, ?_, D2⟩
    rw [sg_103_13]
    repeat (first | ((with_reducible refine step_t ?_ ?_); with_reducible exact True.intro) | ((with_reducible refine step_t ?_ ?_); omega) | ((with_reducible refine step_f ?_ ?_); omega))
    refine step_c (s47 (by omega) hb hw.1) ?_
    try dsimp only
    (try simp (disch := omega) only [wr_id2])
    repeat (first | ((with_reducible refine step_t ?_ ?_); with_reducible exact True.intro) | ((with_reducible refine step_t ?_ ?_); omega) | ((with_reducible refine step_f ?_ ?_); omega))
    refine step_c (s101 (by omega) σ h0 (by omega)) ?_
    try dsimp only
    repeat (first | ((with_reducible refine step_t ?_ ?_); with_reducible exact True.intro) | ((with_reducible refine step_t ?_ ?_); omega) | ((with_reducible refine step_f ?_ ?_); omega))
    refine step_c (k1) ?_
    try dsimp only
    exact j1
theorem s103 {d : Nat} (h : 3 ≤ d) {σ : HP} {b : Int} {L : LB} (hy : Lay σ) (hb : blr σ b L) (hb43 : b + 2 < 43) (hw : wfL L) : ∃ σ', clR PG0 MX d 103 [vR b, vR 43] σ = some (0, σ') ∧ DW σ σ' (dlL L (lS L) (rflF (2 ^ lN0 L - 1) 1 ++ [lN0 L - 1])) := by
  obtain ⟨d, rfl⟩ := ob1 (show 1 ≤ d by omega)
  obtain ⟨⟨m1, m2, m3, m4, m5, m6, m7, m8, m9⟩, f3, f4, f5, f6, fs, fw⟩ := id hb
  obtain ⟨z5, z6, z7, -⟩ := yb_43 hy
  have h8 := pow8 hw.1.1
  have hp0 := Nat.two_pow_pos (lN0 L)
  have hw0 := fw 0 (Nat.zero_le _)
  rw [wd_0] at hw0
  have hw0 : σ (b + 2) 0 = (lS L : Nat) := hw0
  obtain ⟨σ1, k1, D1⟩ := dw_beg (d := d) (by omega) (FS.rf hy) hb hw.1 (x := lS L) hw.1.2.2.2.1
  obtain ⟨σ2, j1, D2⟩ := s103l (d := d) (by omega) hb hb43 hw (2 ^ lN0 L - 1) 1 σ1 [] (by omega) (by omega) D1 (by show 0 + _ + _ ≤ _; omega)
  rw [List.nil_append] at D2
  refine ⟨σ2, ?_, D2⟩
  rw [ce_103, sg_103_0]
  (try simp (disch := omega) only [m5, hw0, wr_id2])
  repeat (first | ((with_reducible refine step_t ?_ ?_); with_reducible exact True.intro) | ((with_reducible refine step_t ?_ ?_); omega) | ((with_reducible refine step_f ?_ ?_); omega))
  refine step_c (k1) ?_
  try dsimp only
  exact j1
/-- ladder -/
theorem s105i {d : Nat} (h : 2 ≤ d) {σ0 : HP} {b : Int} {L : LB} (hb0 : blr σ0 b L) (hb43 : b + 2 < 43) (hw : wfL L) {s r : Nat} : ∀ (m x : Nat) (σ : HP) (l : List Nat), x + m = lN0 L → DW σ0 σ (dlL L s l) → l.length + m ≤ 256 → ∃ σ', rsP PG0 MX d 105 20 [vR b, vR 43, vI r, vI x] [] σ = rsP PG0 MX d 105 13 [vR b, vR 43, vI ((r + 1 : Nat) : Int), vI (lN0 L : Nat)] [] σ' ∧ DW σ0 σ' (dlL L s (l ++ List.range' x m)) := by
  have h9 := hw.1.1
  intro m
  induction m with
  | zero =>
    intro x σ l hx hD hl
    have hb := hD.blr hb0 hb43
    obtain ⟨⟨m1, m2, m3, m4, m5, m6, m7, m8, m9⟩, f3, f4, f5, f6, fs, fw⟩ := id hb
    have ex : x = lN0 L := by omega
    refine ⟨σ, ?_, by rw [show List.range' x 0 = [] from rfl, List.append_nil]; exact hD⟩
    rw [sg_105_20]
    (try simp (disch := omega) only [f3, wr_id2])
    repeat (first | ((with_reducible refine step_t ?_ ?_); with_reducible exact True.intro) | ((with_reducible refine step_t ?_ ?_); omega) | ((with_reducible refine step_f ?_ ?_); omega))
    rw [ex]
    rfl
  | succ m ih =>
    intro x σ l hx hD hl
    have hb := hD.blr hb0 hb43
    obtain ⟨⟨m1, m2, m3, m4, m5, m6, m7, m8, m9⟩, f3, f4, f5, f6, fs, fw⟩ := id hb
    obtain ⟨z5, z6, z7, -⟩ := yb_43 hD.fs.2
    obtain ⟨σ1, k1, D1⟩ := dw_push (d := d) (by omega) hD (x := x) (by show x < lN0 L; omega) (by show l.length < 256; omega)
    obtain ⟨σ2, j1, D2⟩ := ih (x + 1) σ1 (l ++ [x]) (by omega) D1 (by rw [List.length_append]; show l.length + 1 + m ≤ 256; omega)
    have ed : l ++ List.range' x (m + 1) = l ++ [x] ++ List.range' (x + 1) m := by
      show l ++ (x :: List.range' (x + 1) m) = _
      rw [List.append_cons]
    rw [ed]
    refine ⟨σ2, ?_, D2⟩
    rw [sg_105_20]
    (try simp (disch := omega) only [f3, wr_id2])
    repeat (first | ((with_reducible refine step_t ?_ ?_); with_reducible exact True.intro) | ((with_reducible refine step_t ?_ ?_); omega) | ((with_reducible refine step_f ?_ ?_); omega))
    refine step_c (k1) ?_
    try dsimp only
    exact j1
theorem s105 {d : Nat} (h : 3 ≤ d) {σ : HP} {b : Int} {L : LB} (hy : Lay σ) (hb : blr σ b L) (hb43 : b + 2 < 43) (hw : wfL L) : ∃ σ', clR PG0 MX d 105 [vR b, vR 43] σ = some (0, σ') ∧ DW σ σ' (dlL L (lS L) (List.range' 0 (lN0 L) ++ List.range' 0 (lN0 L))) := by
  obtain ⟨d, rfl⟩ := ob1 (show 1 ≤ d by omega)
  obtain ⟨⟨m1, m2, m3, m4, m5, m6, m7, m8, m9⟩, f3, f4, f5, f6, fs, fw⟩ := id hb
  obtain ⟨z5, z6, z7, -⟩ := yb_43 hy
  have h9 := hw.1.1
  have hw0 := fw 0 (Nat.zero_le _)
  rw [wd_0] at hw0
  have hw0 : σ (b + 2) 0 = (lS L : Nat) := hw0
  obtain ⟨σ1, k1, D1⟩ := dw_beg (d := d) (by omega) (FS.rf hy) hb hw.1 (x := lS L) hw.1.2.2.2.1
  obtain ⟨σ2, j1, D2⟩ := s105i (d := d) (by omega) hb hb43 hw (r := 0) (lN0 L) 0 σ1 [] (by omega) D1 (by show 0 + _ ≤ _; omega)
  rw [List.nil_append] at D2
  obtain ⟨σ3, i1, D3⟩ := s105i (d := d) (by omega) hb hb43 hw (r := 1) (lN0 L) 0 σ2 _ (by omega) D2 (by rw [List.length_range']; omega)
  refine ⟨σ3, ?_, D3⟩
  rw [ce_105, sg_105_0]
  (try simp (disch := omega) only [m5, hw0, wr_id2])
  repeat (first | ((with_reducible refine step_t ?_ ?_); with_reducible exact True.intro) | ((with_reducible refine step_t ?_ ?_); omega) | ((with_reducible refine step_f ?_ ?_); omega))
  refine step_c (k1) ?_
  try dsimp only
  rw [sg_105_13]
  refine step_f (by decide) ?_
  refine Eq.trans j1 ?_
  rw [sg_105_13]
  refine step_f (by decide) ?_
  refine Eq.trans i1 ?_
  rw [sg_105_13]
  refine step_t (by decide) ?_
  rfl
/-- makes -/
def makF (w : Int) (L : LB) : Int × Option LB := if w = 0 then (((rflF (2 ^ lN0 L - 1) 1 ++ [lN0 L - 1]).length : Nat), some (dlL L (lS L) (rflF (2 ^ lN0 L - 1) 1 ++ [lN0 L - 1]))) else if w = 1 then (((List.range' 0 (lN0 L) ++ List.range' 0 (lN0 L)).length : Nat), some (dlL L (lS L) (List.range' 0 (lN0 L) ++ List.range' 0 (lN0 L)))) else if w = 2 then (if (lT L).length * 2 ≤ 256 then (((lT L ++ lT L).length : Nat), some (dlL L (lS L) (lT L ++ lT L))) else (-2, none)) else (-2, none)
theorem c102 (S : AS) {s w : Int} (hs : i32 s) (hx : i32 w) : cOp 102 [vI s, vI w] S (aA S s (makF w)) := by
  intro d σ h hy ht hc
  obtain ⟨d, rfl⟩ := ob1 (show 1 ≤ d by omega)
  have y1 := hy.1
  have a1 := y32_m1 hy
  have a5 := y32_5 hy
  have b84 := y84_m1 hy
  have e41 := s41 (d := d) (by omega) hy hc hs
  have a43 := y32_1 hy
  obtain ⟨v1, v2, v3, -⟩ := yb_43 hy
  unfold aA
  cases e : gl S s with
  | none =>
    rw [lbA_n e] at e41
    refine ⟨σ, ?_, FC.rf hy, hc⟩
    rw [ce_102, sg_102_0]
    repeat (first | ((with_reducible refine step_t ?_ ?_); with_reducible exact True.intro) | ((with_reducible refine step_t ?_ ?_); omega) | ((with_reducible refine step_f ?_ ?_); omega))
    refine step_c (e41) ?_
    try dsimp only
    repeat (first | ((with_reducible refine step_t ?_ ?_); with_reducible exact True.intro) | ((with_reducible refine step_t ?_ ?_); omega) | ((with_reducible refine step_f ?_ ?_); omega))
    rfl
  | some L =>
    rw [lbA_s e] at e41
    obtain ⟨g1, g2, g3, g4, g5⟩ := hc.got e
    have hw := g4.1
    obtain ⟨⟨m1, m2, m3, m4, m5, m6, m7, m8, m9⟩, f3, f4, f5, f6, fs, fw⟩ := id g3
    have hl := wf_len hw
    have h9 := hw.1
    have hsh := shN_le L
    dsimp only
    have x1 := hx.1
    have x2 := hx.2
    unfold makF
    by_cases z0 : w = 0
    · subst z0
      rw [if_pos rfl]
      dsimp only
      obtain ⟨σ1, k1, D1⟩ := s103 (d := d) (by omega) hy g3 (by omega) g4
      obtain ⟨σ2, j1, F2, C2, B2, _⟩ := dw_set (d := d) (by omega) hc D1 g1 g2 g4.2.1 g4.2.2.1 g4.2.2.2
      have hy1 := D1.fs.2
      have t1 := hy1.1
      have t2 := y32_m1 hy1
      refine ⟨σ2, ?_, F2, C2⟩
      rw [ce_102, sg_102_0]
      repeat (first | ((with_reducible refine step_t ?_ ?_); with_reducible exact True.intro) | ((with_reducible refine step_t ?_ ?_); omega) | ((with_reducible refine step_f ?_ ?_); omega))
      refine step_c (e41) ?_
      try dsimp only
      (try simp (disch := omega) only [a43, wr_id2])
      repeat (first | ((with_reducible refine step_t ?_ ?_); with_reducible exact True.intro) | ((with_reducible refine step_t ?_ ?_); omega) | ((with_reducible refine step_f ?_ ?_); omega))
      refine step_c (k1) ?_
      try dsimp only
      repeat (first | ((with_reducible refine step_t ?_ ?_); with_reducible exact True.intro) | ((with_reducible refine step_t ?_ ?_); omega) | ((with_reducible refine step_f ?_ ?_); omega))
      refine step_c (j1) ?_
      try dsimp only
    · rw [if_neg z0]
      by_cases z1 : w = 1
      · subst z1
        rw [if_pos rfl]
        dsimp only
        obtain ⟨σ1, k1, D1⟩ := s105 (d := d) (by omega) hy g3 (by omega) g4
        obtain ⟨σ2, j1, F2, C2, B2, _⟩ := dw_set (d := d) (by omega) hc D1 g1 g2 g4.2.1 g4.2.2.1 g4.2.2.2
        have hy1 := D1.fs.2
        have t1 := hy1.1
        have t2 := y32_m1 hy1
        refine ⟨σ2, ?_, F2, C2⟩
        rw [ce_102, sg_102_0]
        repeat (first | ((with_reducible refine step_t ?_ ?_); with_reducible exact True.intro) | ((with_reducible refine step_t ?_ ?_); omega) | ((with_reducible refine step_f ?_ ?_); omega))
        refine step_c (e41) ?_
        try dsimp only
        (try simp (disch := omega) only [a43, wr_id2])
        repeat (first | ((with_reducible refine step_t ?_ ?_); with_reducible exact True.intro) | ((with_reducible refine step_t ?_ ?_); omega) | ((with_reducible refine step_f ?_ ?_); omega))
        refine step_c (k1) ?_
        try dsimp only
        repeat (first | ((with_reducible refine step_t ?_ ?_); with_reducible exact True.intro) | ((with_reducible refine step_t ?_ ?_); omega) | ((with_reducible refine step_f ?_ ?_); omega))
        refine step_c (j1) ?_
        try dsimp only
      · rw [if_neg z1]
        by_cases z2 : w = 2
        · subst z2
          rw [if_pos rfl]
          by_cases z3 : (lT L).length * 2 ≤ 256
          · rw [if_pos z3]
            dsimp only
            obtain ⟨σ1, k1, D1⟩ := dw_cp (d := d - 1) (by omega) (FS.rf hy) g3 (by omega) hw (hc.ex e)
            obtain ⟨σ2, k2, D2⟩ := dw_on0 (d := d - 1) (by omega) D1 g3 (by omega) hw (i := 0) (j := (lT L).length) (by omega) (by omega) (by omega) (Nat.le_refl _)
            rw [slc_all] at D2
            obtain ⟨σ3, j1, F3, C3, B3, _⟩ := dw_set (d := d) (by omega) hc D2 g1 g2 g4.2.1 g4.2.2.1 g4.2.2.2
            have hy1 := D1.fs.2
            have t1 := hy1.1
            obtain ⟨z5, z6, z7, -⟩ := yb_43 hy1
            have hy2 := D2.fs.2
            have u1 := hy2.1
            have u2 := y32_m1 hy2
            obtain ⟨⟨p1, p2, p3, p4, -⟩, -, -, -, p6, -⟩ := D1.blr g3 (by omega)
            have e106 : clR PG0 MX d 106 [vR (34 + 3 * s), vR 43] σ = some (0, σ2) := by
              obtain ⟨d, rfl⟩ := ob1 (show 1 ≤ d by omega)
              rw [ce_106, sg_106_0]
              repeat (first | ((with_reducible refine step_t ?_ ?_); with_reducible exact True.intro) | ((with_reducible refine step_t ?_ ?_); omega) | ((with_reducible refine step_f ?_ ?_); omega))
              refine step_c (k1) ?_
              try dsimp only
              (try simp (disch := omega) only [p6, wr_id2])
              repeat (first | ((with_reducible refine step_t ?_ ?_); with_reducible exact True.intro) | ((with_reducible refine step_t ?_ ?_); omega) | ((with_reducible refine step_f ?_ ?_); omega))
              refine step_c (k2) ?_
              try dsimp only
            refine ⟨σ3, ?_, F3, C3⟩
            rw [ce_102, sg_102_0]
            repeat (first | ((with_reducible refine step_t ?_ ?_); with_reducible exact True.intro) | ((with_reducible refine step_t ?_ ?_); omega) | ((with_reducible refine step_f ?_ ?_); omega))
            refine step_c (e41) ?_
            try dsimp only
            (try simp (disch := omega) only [a43, f6, wr_id2])
            repeat (first | ((with_reducible refine step_t ?_ ?_); with_reducible exact True.intro) | ((with_reducible refine step_t ?_ ?_); omega) | ((with_reducible refine step_f ?_ ?_); omega))
            refine step_c (e106) ?_
            try dsimp only
            repeat (first | ((with_reducible refine step_t ?_ ?_); with_reducible exact True.intro) | ((with_reducible refine step_t ?_ ?_); omega) | ((with_reducible refine step_f ?_ ?_); omega))
            refine step_c (j1) ?_
            try dsimp only
          · rw [if_neg z3]
            dsimp only
            refine ⟨σ, ?_, FC.rf hy, hc⟩
            rw [ce_102, sg_102_0]
            repeat (first | ((with_reducible refine step_t ?_ ?_); with_reducible exact True.intro) | ((with_reducible refine step_t ?_ ?_); omega) | ((with_reducible refine step_f ?_ ?_); omega))
            refine step_c (e41) ?_
            try dsimp only
            (try simp (disch := omega) only [f6, wr_id2])
            repeat (first | ((with_reducible refine step_t ?_ ?_); with_reducible exact True.intro) | ((with_reducible refine step_t ?_ ?_); omega) | ((with_reducible refine step_f ?_ ?_); omega))
            rfl
        · rw [if_neg z2]
          dsimp only
          refine ⟨σ, ?_, FC.rf hy, hc⟩
          rw [ce_102, sg_102_0]
          repeat (first | ((with_reducible refine step_t ?_ ?_); with_reducible exact True.intro) | ((with_reducible refine step_t ?_ ?_); omega) | ((with_reducible refine step_f ?_ ?_); omega))
          refine step_c (e41) ?_
          try dsimp only
          (try simp (disch := omega) only [f6, wr_id2])
          repeat (first | ((with_reducible refine step_t ?_ ?_); with_reducible exact True.intro) | ((with_reducible refine step_t ?_ ?_); omega) | ((with_reducible refine step_f ?_ ?_); omega))
          rfl
/-- mirror -/
def mirS (L : LB) : Nat → Nat → Nat → Nat
  | 0, _, a => a
  | m + 1, x, a => mirS L m (x + 1) (a ||| btN (lS L) x * 2 ^ (lN0 L - 1 - x))
theorem bt_pow {w x N y : Nat} (h : y < N) : btN w x * 2 ^ y < 2 ^ N := by
  have h1 := btN_2 w x
  have h2 := Nat.pow_lt_pow_right (a := 2) (by omega) h
  have h3 : btN w x = 0 ∨ btN w x = 1 := by omega
  rcases h3 with e | e
  · rw [e, Nat.zero_mul]; exact Nat.two_pow_pos N
  · rw [e, Nat.one_mul]; exact h2
theorem mirS_lt (L : LB) : ∀ m x a, x + m = lN0 L → a < 2 ^ lN0 L → mirS L m x a < 2 ^ lN0 L := by
  intro m
  induction m with
  | zero => intro x a _ ha; exact ha
  | succ m ih =>
    intro x a hx ha
    exact ih (x + 1) _ (by omega) (Nat.or_lt_two_pow ha (bt_pow (by omega)))
def mirF (L : LB) : Int × Option LB := ((mirS L (lN0 L) 0 0 : Nat), some (dlL L (mirS L (lN0 L) 0 0) ((lT L).map (fun x => lN0 L - 1 - x))))
theorem s153b {d : Nat} (h : 2 ≤ d) {σ0 : HP} {b : Int} {L : LB} (hb0 : blr σ0 b L) (hb43 : b + 2 < 43) (hw : wfL L) {s : Nat} : ∀ (m i : Nat) (σ : HP) (l : List Nat) (u : MV), i + m = (lT L).length → DW σ0 σ (dlL L s l) → l.length + m ≤ 256 → ∃ σ', rsP PG0 MX d 153 44 [vR b, vR 43, u, vI i] [] σ = some (0, σ') ∧ DW σ0 σ' (dlL L s (l ++ ((lT L).drop i).map (fun x => lN0 L - 1 - x))) := by
  have hl := wf_len hw.1
  have h9 := hw.1.1
  intro m
  induction m with
  | zero =>
    intro i σ l u hi hD hlen
    have hb := hD.blr hb0 hb43
    obtain ⟨⟨m1, m2, m3, m4, m5, m6, m7, m8, m9⟩, f3, f4, f5, f6, fs, fw⟩ := id hb
    refine ⟨σ, ?_, by rw [List.drop_eq_nil_of_le (by omega), List.map_nil, List.append_nil]; exact hD⟩
    rw [sg_153_44]
    (try simp (disch := omega) only [f6, wr_id2])
    repeat (first | ((with_reducible refine step_t ?_ ?_); with_reducible exact True.intro) | ((with_reducible refine step_t ?_ ?_); omega) | ((with_reducible refine step_f ?_ ?_); omega))
    rfl
  | succ m ih =>
    intro i σ l u hi hD hlen
    have hb := hD.blr hb0 hb43
    obtain ⟨⟨m1, m2, m3, m4, m5, m6, m7, m8, m9⟩, f3, f4, f5, f6, fs, fw⟩ := id hb
    obtain ⟨z5, z6, z7, -⟩ := yb_43 hD.fs.2
    obtain ⟨x, x1, x2⟩ := st_at hb (i := i) (by omega)
    have x3 := st_lt hw.1 x1
    obtain ⟨σ1, k1, D1⟩ := dw_push (d := d) (by omega) hD (x := lN0 L - 1 - x) (by show _ < lN0 L; omega) (by show l.length < 256; omega)
    rw [show ((lN0 L - 1 - x : Nat) : Int) = (lN0 L : Nat) - 1 - (x : Int) by omega] at k1
    obtain ⟨σ2, j1, D2⟩ := ih (i + 1) σ1 (l ++ [lN0 L - 1 - x]) vU (by omega) D1 (by rw [List.length_append]; show l.length + 1 + m ≤ 256; omega)
    have e2 : (lT L).drop i = x :: (lT L).drop (i + 1) := by
      rw [List.drop_eq_getElem_cons (by omega)]
      have := List.getElem?_eq_getElem (l := lT L) (i := i) (by omega)
      rw [x1] at this
      rw [Option.some.inj this]
    refine ⟨σ2, ?_, by rw [e2, List.map_cons, List.append_cons]; exact D2⟩
    rw [sg_153_44]
    (try simp (disch := omega) only [f3, f6, m4, x2, wr_id2])
    repeat (first | ((with_reducible refine step_t ?_ ?_); with_reducible exact True.intro) | ((with_reducible refine step_t ?_ ?_); omega) | ((with_reducible refine step_f ?_ ?_); omega))
    refine step_c (k1) ?_
    try dsimp only
    exact j1
theorem s153a {d : Nat} (h : 3 ≤ d) {σ : HP} {b : Int} {L : LB} (hy : Lay σ) (hb : blr σ b L) (hb43 : b + 2 < 43) (hw : wfL L) : ∀ (m x a : Nat), x + m = lN0 L → a < 2 ^ lN0 L → ∃ σ', rsP PG0 MX d 153 4 [vR b, vR 43, vI a, vI x] [] σ = some (0, σ') ∧ DW σ σ' (dlL L (mirS L m x a) ((lT L).map (fun x => lN0 L - 1 - x))) := by
  obtain ⟨⟨m1, m2, m3, m4, m5, m6, m7, m8, m9⟩, f3, f4, f5, f6, fs, fw⟩ := id hb
  obtain ⟨z5, z6, z7, -⟩ := yb_43 hy
  have h8 := pow8 hw.1.1
  have h9 := hw.1.1
  have hl := wf_len hw.1
  intro m
  induction m with
  | zero =>
    intro x a hx ha
    obtain ⟨σ1, k1, D1⟩ := dw_beg (d := d) (by omega) (FS.rf hy) hb hw.1 (x := a) ha
    obtain ⟨σ2, j1, D2⟩ := s153b (d := d) (by omega) hb hb43 hw (lT L).length 0 σ1 [] (vI a) (by omega) D1 (by show 0 + _ ≤ _; omega)
    refine ⟨σ2, ?_, D2⟩
    rw [sg_153_4]
    (try simp (disch := omega) only [f3, wr_id2])
    repeat (first | ((with_reducible refine step_t ?_ ?_); with_reducible exact True.intro) | ((with_reducible refine step_t ?_ ?_); omega) | ((with_reducible refine step_f ?_ ?_); omega))
    refine step_c (k1) ?_
    try dsimp only
    exact j1
  | succ m ih =>
    intro x a hx ha
    have b2 := btN_2 (lS L) x
    have q := s64 (d := d) (by omega) hb hw.1 (i := 0) (k := x) (Nat.zero_le _) (by omega)
    rw [wd_0] at q
    have q : clR PG0 MX d 64 [vR b, vI 0, vI x] σ = some (((btN (lS L) x : Nat) : Int), σ) := q
    have hlt : btN (lS L) x * 2 ^ (lN0 L - 1 - x) < 2 ^ lN0 L := bt_pow (by omega)
    have e1 : i_shl ((btN (lS L) x : Nat) : Int) ((lN0 L : Nat) - 1 - (x : Int)) = ((btN (lS L) x * 2 ^ (lN0 L - 1 - x) : Nat) : Int) := by
      rw [show ((lN0 L : Nat) : Int) - 1 - (x : Int) = ((lN0 L - 1 - x : Nat) : Int) by omega]
      exact i_shl_n (by omega) (by omega)
    obtain ⟨σ', k1, k2⟩ := ih (x + 1) (a ||| btN (lS L) x * 2 ^ (lN0 L - 1 - x)) (by omega) (Nat.or_lt_two_pow ha hlt)
    refine ⟨σ', ?_, k2⟩
    rw [sg_153_4]
    (try simp (disch := omega) only [f3, wr_id2])
    repeat (first | ((with_reducible refine step_t ?_ ?_); with_reducible exact True.intro) | ((with_reducible refine step_t ?_ ?_); omega) | ((with_reducible refine step_f ?_ ?_); omega))
    refine step_c (q) ?_
    try dsimp only
    (try simp (disch := omega) only [f3, e1, i_or_n (a := a) (b := btN (lS L) x * 2 ^ (lN0 L - 1 - x)) (by omega) (by omega), wr_id2])
    repeat (first | ((with_reducible refine step_t ?_ ?_); with_reducible exact True.intro) | ((with_reducible refine step_t ?_ ?_); omega) | ((with_reducible refine step_f ?_ ?_); omega))
    exact k1
theorem c152 (S : AS) {s : Int} (hs : i32 s) : cOp 152 [vI s] S (aA S s mirF) := by
  intro d σ h hy ht hc
  obtain ⟨d, rfl⟩ := ob1 (show 1 ≤ d by omega)
  have y1 := hy.1
  have a1 := y32_m1 hy
  have a5 := y32_5 hy
  have b84 := y84_m1 hy
  have e41 := s41 (d := d) (by omega) hy hc hs
  have a43 := y32_1 hy
  obtain ⟨v1, v2, v3, -⟩ := yb_43 hy
  unfold aA
  cases e : gl S s with
  | none =>
    rw [lbA_n e] at e41
    refine ⟨σ, ?_, FC.rf hy, hc⟩
    rw [ce_152, sg_152_0]
    repeat (first | ((with_reducible refine step_t ?_ ?_); with_reducible exact True.intro) | ((with_reducible refine step_t ?_ ?_); omega) | ((with_reducible refine step_f ?_ ?_); omega))
    refine step_c (e41) ?_
    try dsimp only
    repeat (first | ((with_reducible refine step_t ?_ ?_); with_reducible exact True.intro) | ((with_reducible refine step_t ?_ ?_); omega) | ((with_reducible refine step_f ?_ ?_); omega))
    rfl
  | some L =>
    rw [lbA_s e] at e41
    obtain ⟨g1, g2, g3, g4, g5⟩ := hc.got e
    have hw := g4.1
    obtain ⟨⟨m1, m2, m3, m4, m5, m6, m7, m8, m9⟩, f3, f4, f5, f6, fs, fw⟩ := id g3
    have hl := wf_len hw
    have h9 := hw.1
    have hsh := shN_le L
    dsimp only
    unfold mirF
    dsimp only
    obtain ⟨σ1, k1, D1⟩ := s153a (d := d - 1) (by omega) hy g3 (by omega) g4 (lN0 L) 0 0 (by omega) (Nat.two_pow_pos _)
    obtain ⟨σ2, j1, F2, C2, B2, _⟩ := dw_set (d := d) (by omega) hc D1 g1 g2 g4.2.1 g4.2.2.1 g4.2.2.2
    have hy1 := D1.fs.2
    have t1 := hy1.1
    have t2 := y32_m1 hy1
    obtain ⟨⟨q1, q2, q3, q4, q5, q6, q7, q8, q9⟩, -, -, -, -, -, q10⟩ := B2
    have q10 := q10 0 (Nat.zero_le _)
    rw [wd_0] at q10
    have q10 : σ2 (34 + 3 * s + 2) 0 = (mirS L (lN0 L) 0 0 : Nat) := q10
    have e153 : clR PG0 MX d 153 [vR (34 + 3 * s), vR 43] σ = some (0, σ1) := by
      obtain ⟨d, rfl⟩ := ob1 (show 1 ≤ d by omega)
      rw [ce_153, sg_153_0]
      exact k1
    refine ⟨σ2, ?_, F2, C2⟩
    rw [ce_152, sg_152_0]
    repeat (first | ((with_reducible refine step_t ?_ ?_); with_reducible exact True.intro) | ((with_reducible refine step_t ?_ ?_); omega) | ((with_reducible refine step_f ?_ ?_); omega))
    refine step_c (e41) ?_
    try dsimp only
    (try simp (disch := omega) only [a43, wr_id2])
    repeat (first | ((with_reducible refine step_t ?_ ?_); with_reducible exact True.intro) | ((with_reducible refine step_t ?_ ?_); omega) | ((with_reducible refine step_f ?_ ?_); omega))
    refine step_c (e153) ?_
    try dsimp only
    repeat (first | ((with_reducible refine step_t ?_ ?_); with_reducible exact True.intro) | ((with_reducible refine step_t ?_ ?_); omega) | ((with_reducible refine step_f ?_ ?_); omega))
    refine step_c (j1) ?_
    try dsimp only
    (try simp (disch := omega) only [q5, q10, wr_id2])
    repeat (first | ((with_reducible refine step_t ?_ ?_); with_reducible exact True.intro) | ((with_reducible refine step_t ?_ ?_); omega) | ((with_reducible refine step_f ?_ ?_); omega))
    rfl
