/-! PRODUCTS -/
def prdF (L M : LB) : Nat → Nat → List Nat
  | 0, _ => []
  | m + 1, i => (if i % 2 = 0 then lT L else (lT L).reverse) ++ (slc M i 1).map (· + lN0 L) ++ prdF L M m (i + 1)
abbrev prdL (L M : LB) : LB := (lN0 L + lN0 M, 0, lN0 L + lN0 M, lS L ||| lS M * 2 ^ lN0 L, prdF L M ((lT M).length + 1) 0)
theorem slc_1 {M : LB} {i : Nat} (h : i ≤ (lT M).length) : (slc M i 1).length = if i < (lT M).length then 1 else 0 := by
  unfold slc
  rw [List.length_take, List.length_drop]
  by_cases z : i < (lT M).length
  · rw [if_pos z]; omega
  · rw [if_neg z]; omega
theorem prdF_c (L M : LB) (m i : Nat) : (prdF L M (m + 1) i).length = (lT L).length + (slc M i 1).length + (prdF L M m (i + 1)).length := by
  show ((if i % 2 = 0 then lT L else (lT L).reverse) ++ (slc M i 1).map (· + lN0 L) ++ prdF L M m (i + 1)).length = _
  rw [List.length_append, List.length_append, List.length_map]
  by_cases z : i % 2 = 0
  · rw [if_pos z]
  · rw [if_neg z, List.length_reverse]
theorem prdF_len (L M : LB) : ∀ m i, i + m = (lT M).length + 1 → (prdF L M m i).length = (lT L).length * m + ((lT M).length - i) := by
  intro m
  induction m with
  | zero => intro i hi; show 0 = _; omega
  | succ m ih =>
    intro i hi
    rw [prdF_c, ih (i + 1) (by omega), slc_1 (by omega), Nat.mul_succ]
    by_cases z : i < (lT M).length
    · rw [if_pos z]; omega
    · rw [if_neg z]; omega
theorem prdF_mem {L M : LB} (hL : wf0 L) (hM : wf0 M) : ∀ m i x, x ∈ prdF L M m i → x < lN0 L + lN0 M := by
  intro m
  induction m with
  | zero => intro i x h; cases h
  | succ m ih =>
    intro i x h
    have h : x ∈ (if i % 2 = 0 then lT L else (lT L).reverse) ++ (slc M i 1).map (· + lN0 L) ++ prdF L M m (i + 1) := h
    rcases List.mem_append.mp h with h | h
    · rcases List.mem_append.mp h with h | h
      · have : x ∈ lT L := by
          by_cases z : i % 2 = 0
          · rw [if_pos z] at h; exact h
          · rw [if_neg z] at h; exact List.mem_reverse.mp h
        have := hL.2.2.2.2.2 x this
        omega
      · obtain ⟨y, y1, y2⟩ := List.mem_map.mp h
        have := slc_mem hM y1
        omega
    · exact ih (i + 1) x h
theorem prdL_s {L M : LB} (hL : wf0 L) (hM : wf0 M) : lS L ||| lS M * 2 ^ lN0 L < 2 ^ (lN0 L + lN0 M) := by
  have h1 : lS L < 2 ^ (lN0 L + lN0 M) := Nat.lt_of_lt_of_le hL.2.2.2.1 (Nat.pow_le_pow_right (by omega) (by omega))
  have h2 : lS M * 2 ^ lN0 L < 2 ^ (lN0 L + lN0 M) := by
    rw [Nat.pow_add, Nat.mul_comm (2 ^ lN0 L)]
    exact Nat.mul_lt_mul_of_pos_right hM.2.2.2.1 (Nat.two_pow_pos _)
  exact Nat.or_lt_two_pow h1 h2
def prdA (S : AS) (s t u : Int) : Int × AS := match gl S s, gl S t with
  | some L, some M => if 0 ≤ u ∧ u < 3 then (if 8 < lN0 L + lN0 M ∨ 256 < (lT L).length * ((lT M).length + 1) + (lT M).length then (-5, S) else (((prdF L M ((lT M).length + 1) 0).length : Nat), setl S u.toNat (some (prdL L M)))) else (-2, S)
  | _, _ => (-2, S)
theorem prd_b {a b : Nat} (ha : a ≤ 256) (hb : b ≤ 256) : (a : Int) * ((b : Int) + 1) + (b : Int) = ((a * (b + 1) + b : Nat) : Int) ∧ a * (b + 1) + b < 100000 := by
  have h := Nat.mul_le_mul ha (show b + 1 ≤ 257 by omega)
  refine ⟨?_, by omega⟩
  rw [Int.natCast_add, Int.natCast_mul, Int.natCast_add]
  rfl
theorem prd_wf {L M : LB} (hL : wfL L) (hM : wfL M) (h8 : lN0 L + lN0 M ≤ 8) (hl : (prdF L M ((lT M).length + 1) 0).length ≤ 256) : wfL (prdL L M) := by
  have h1 := hL.2.1
  refine ⟨⟨h8, Nat.zero_le _, h8, prdL_s hL.1 hM.1, hl, fun b hb => prdF_mem hL.1 hM.1 _ _ b hb⟩, ?_, Nat.zero_le _, Nat.le_refl _⟩
  show 1 ≤ lN0 L + lN0 M
  omega
/-- the class -/
theorem s107z {d : Nat} (h : 7 ≤ d) {σ : HP} {c : Int} {M : LB} (hc : blr σ c M) (hM : wf0 M) {k : Nat} : clR PG0 MX d 107 [vR 43, vR c, vI ((lT M).length : Nat), vI (((lT M).length : Nat) + 1), vI k] σ = some (0, σ) := by
  obtain ⟨d, rfl⟩ := ob1 (show 1 ≤ d by omega)
  obtain ⟨⟨m1, m2, m3, m4, m5, m6, m7, m8, m9⟩, f3, f4, f5, f6, fs, fw⟩ := id hc
  have hl := wf_len hM
  rw [ce_107, sg_107_0]
  refine step_c (p_max (by omega) σ _ _) ?_
  try dsimp only
  (try simp (disch := omega) only [wr_id2])
  rw [if_neg (by omega), sg_107_7]
  (try simp (disch := omega) only [f6, wr_id2])
  repeat (first | ((with_reducible refine step_t ?_ ?_); with_reducible exact True.intro) | ((with_reducible refine step_t ?_ ?_); omega) | ((with_reducible refine step_f ?_ ?_); omega))
  rfl
theorem s144l {d : Nat} (h : 7 ≤ d) {σ0 : HP} {b c : Int} {L M : LB} (hb0 : blr σ0 b L) (hb43 : b + 2 < 43) (hL : wfL L) (hc0 : blr σ0 c M) (hc43 : c + 2 < 43) (hM : wfL M) {t : Nat} : ∀ (m i : Nat) (σ : HP) (l : List Nat) (u : MV), i + m = (lT M).length + 1 → DW σ0 σ (lN0 L + lN0 M, 0, lN0 L + lN0 M, t, l) → l.length + (prdF L M m i).length ≤ 256 → ∃ σ', rsP PG0 MX d 144 38 [vR b, vR c, vR 43, u, vI i] [] σ = some (0, σ') ∧ DW σ0 σ' (lN0 L + lN0 M, 0, lN0 L + lN0 M, t, l ++ prdF L M m i) := by
  have hl1 := wf_len hL.1
  have hl2 := wf_len hM.1
  intro m
  induction m with
  | zero =>
    intro i σ l u hi hD hlen
    have hc := hD.blr hc0 hc43
    obtain ⟨⟨m1, m2, m3, m4, m5, m6, m7, m8, m9⟩, f3, f4, f5, f6, fs, fw⟩ := id hc
    refine ⟨σ, ?_, by rw [show prdF L M 0 i = [] from rfl, List.append_nil]; exact hD⟩
    rw [sg_144_38]
    (try simp (disch := omega) only [f6, wr_id2])
    repeat (first | ((with_reducible refine step_t ?_ ?_); with_reducible exact True.intro) | ((with_reducible refine step_t ?_ ?_); omega) | ((with_reducible refine step_f ?_ ?_); omega))
    rfl
  | succ m ih =>
    intro i σ l u hi hD hlen
    have hb := hD.blr hb0 hb43
    have hc := hD.blr hc0 hc43
    obtain ⟨⟨m1, m2, m3, m4, m5, m6, m7, m8, m9⟩, f3, f4, f5, f6, fs, fw⟩ := id hc
    obtain ⟨⟨n1, n2, n3, n4, -⟩, -, -, -, n6, -⟩ := id hb
    obtain ⟨z5, z6, z7, -⟩ := yb_43 hD.fs.2
    rw [prdF_c] at hlen
    have er : i_rem (i : Int) 2 = ((i % 2 : Nat) : Int) := i_rem_n (b := 2) (by omega) (by omega) (by omega)
    have e0 : slc L 0 ((lT L).length - 0) = lT L := slc_all L
    have kA : ∃ σ1, (if i % 2 = 0 then clR PG0 MX d 107 [vR 43, vR b, vI 0, vI ((lT L).length : Nat), vI 0] σ else clR PG0 MX d 123 [vR 43, vR b, vI 0, vI ((lT L).length : Nat)] σ) = some (0, σ1) ∧ DW σ0 σ1 (lN0 L + lN0 M, 0, lN0 L + lN0 M, t, l ++ (if i % 2 = 0 then lT L else (lT L).reverse)) := by
      by_cases z : i % 2 = 0
      · rw [if_pos z, if_pos z]
        obtain ⟨σ1, k1, D1⟩ := dw_on0 (d := d) h hD hb0 hb43 hL.1 (i := 0) (j := (lT L).length) (by omega) (by omega) (by show l.length + _ ≤ 256; omega) (by show lN0 L ≤ lN0 L + lN0 M; omega)
        rw [e0] at D1
        exact ⟨σ1, k1, D1⟩
      · rw [if_neg z, if_neg z]
        obtain ⟨σ1, k1, D1⟩ := dw_bk (d := d) h hD hb0 hb43 hL.1 (i := 0) (j := (lT L).length) (by omega) (by omega) (by show l.length + _ ≤ 256; omega) (by show lN0 L ≤ lN0 L + lN0 M; omega)
        rw [e0] at D1
        exact ⟨σ1, k1, D1⟩
    obtain ⟨σ1, k1, D1⟩ := kA
    have hlA : (if i % 2 = 0 then lT L else (lT L).reverse).length = (lT L).length := by
      by_cases z : i % 2 = 0
      · rw [if_pos z]
      · rw [if_neg z, List.length_reverse]
    have hb1 := D1.blr hb0 hb43
    have hc1 := D1.blr hc0 hc43
    obtain ⟨⟨p1, p2, p3, p4, -⟩, p5, -⟩ := id hb1
    obtain ⟨y5, y6, y7, -⟩ := yb_43 D1.fs.2
    have kB : ∃ σ2, clR PG0 MX d 107 [vR 43, vR c, vI i, vI ((i : Int) + 1), vI (lN0 L : Nat)] σ1 = some (0, σ2) ∧ DW σ0 σ2 (lN0 L + lN0 M, 0, lN0 L + lN0 M, t, l ++ (if i % 2 = 0 then lT L else (lT L).reverse) ++ (slc M i 1).map (· + lN0 L)) := by
      by_cases z : i < (lT M).length
      · rw [slc_1 (by omega), if_pos z] at hlen
        obtain ⟨σ2, k2, D2⟩ := dw_on (d := d) h D1 hc0 hc43 hM.1 (lN0 L) (i := i) (j := i + 1) (by omega) (by omega) (by show (l ++ _).length + _ ≤ 256; rw [List.length_append, hlA]; omega) (by show lN0 M + lN0 L ≤ lN0 L + lN0 M; omega)
        rw [show i + 1 - i = 1 by omega] at D2
        exact ⟨σ2, k2, D2⟩
      · have ei : i = (lT M).length := by omega
        subst ei
        refine ⟨σ1, s107z h hc1 hM.1, ?_⟩
        have : slc M (lT M).length 1 = [] := by unfold slc; rw [List.drop_eq_nil_of_le (Nat.le_refl _)]; rfl
        rw [this, List.map_nil, List.append_nil]
        exact D1
    obtain ⟨σ2, k2, D2⟩ := kB
    obtain ⟨σ3, k3, D3⟩ := ih (i + 1) σ2 _ vU (by omega) D2 (by rw [List.length_append, List.length_append, hlA, List.length_map]; omega)
    have ed : l ++ prdF L M (m + 1) i = l ++ (if i % 2 = 0 then lT L else (lT L).reverse) ++ (slc M i 1).map (· + lN0 L) ++ prdF L M m (i + 1) := by
      show l ++ ((if i % 2 = 0 then lT L else (lT L).reverse) ++ (slc M i 1).map (· + lN0 L) ++ prdF L M m (i + 1)) = _
      simp only [List.append_assoc]
    rw [ed]
    have kC : rsP PG0 MX d 144 78 [vR b, vR c, vR 43, vU, vI i] [] σ1 = some (0, σ3) := by
      rw [sg_144_78]
      (try simp (disch := omega) only [p5, wr_id2])
      repeat (first | ((with_reducible refine step_t ?_ ?_); with_reducible exact True.intro) | ((with_reducible refine step_t ?_ ?_); omega) | ((with_reducible refine step_f ?_ ?_); omega))
      refine step_c (k2) ?_
      try dsimp only
      exact k3
    refine ⟨σ3, ?_, D3⟩
    rw [sg_144_38]
    (try simp (disch := omega) only [f6, er, wr_id2])
    repeat (first | ((with_reducible refine step_t ?_ ?_); with_reducible exact True.intro) | ((with_reducible refine step_t ?_ ?_); omega) | ((with_reducible refine step_f ?_ ?_); omega))
    by_cases z : i % 2 = 0
    · rw [if_pos z] at k1
      refine step_f (by omega) ?_
      (try simp (disch := omega) only [n6, wr_id2])
      repeat (first | ((with_reducible refine step_t ?_ ?_); with_reducible exact True.intro) | ((with_reducible refine step_t ?_ ?_); omega) | ((with_reducible refine step_f ?_ ?_); omega))
      refine step_c (k1) ?_
      try dsimp only
      exact kC
    · rw [if_neg z] at k1
      refine step_t (by omega) ?_
      (try simp (disch := omega) only [n6, wr_id2])
      repeat (first | ((with_reducible refine step_t ?_ ?_); with_reducible exact True.intro) | ((with_reducible refine step_t ?_ ?_); omega) | ((with_reducible refine step_f ?_ ?_); omega))
      refine step_c (k1) ?_
      try dsimp only
      exact kC
theorem s144 {d : Nat} (h : 8 ≤ d) {σ : HP} (hy : Lay σ) {b c : Int} {L M : LB} (hb : blr σ b L) (hb43 : b + 2 < 43) (hL : wfL L) (hc : blr σ c M) (hc43 : c + 2 < 43) (hM : wfL M) (h8 : lN0 L + lN0 M ≤ 8) (hlen : (prdF L M ((lT M).length + 1) 0).length ≤ 256) : ∃ σ', clR PG0 MX d 144 [vR b, vR c, vR 43] σ = some (0, σ') ∧ DW σ σ' (prdL L M) := by
  obtain ⟨d, rfl⟩ := ob1 (show 1 ≤ d by omega)
  obtain ⟨⟨m1, m2, m3, m4, m5, m6, m7, m8, m9⟩, f3, f4, f5, f6, fs, fw⟩ := id hb
  obtain ⟨⟨n1, n2, n3, n4, n5, n6, n7, n8, n9⟩, p3, -, -, p6, -, pw⟩ := id hc
  obtain ⟨z5, z6, z7, -⟩ := yb_43 hy
  have sL := lS_256 hL.1
  have sM := lS_256 hM.1
  have w0 := fw 0 (Nat.zero_le _)
  rw [wd_0] at w0
  have w0 : σ (b + 2) 0 = (lS L : Nat) := w0
  have w1 := pw 0 (Nat.zero_le _)
  rw [wd_0] at w1
  have w1 : σ (c + 2) 0 = (lS M : Nat) := w1
  have hp := pow8 (show lN0 L ≤ 8 by omega)
  have hsm : lS M * 2 ^ lN0 L < 2147483648 := by
    have := Nat.mul_le_mul (show lS M ≤ 256 by omega) hp
    omega
  have e1 : i_shl ((lS M : Nat) : Int) (lN0 L : Nat) = ((lS M * 2 ^ lN0 L : Nat) : Int) := i_shl_n (by omega) hsm
  have e2 : i_or ((lS L : Nat) : Int) ((lS M * 2 ^ lN0 L : Nat) : Int) = ((lS L ||| lS M * 2 ^ lN0 L : Nat) : Int) := i_or_n (by omega) hsm
  obtain ⟨σ1, k1, k2, k3, k4⟩ := s28 (d := d) (by omega) (yb_43 hy) (lN0 L + lN0 M) 0 (lN0 L + lN0 M) (lS L ||| lS M * 2 ^ lN0 L)
  have D1 : DW σ σ1 (lN0 L + lN0 M, 0, lN0 L + lN0 M, lS L ||| lS M * 2 ^ lN0 L, []) := ⟨(FS.rf hy).ag3 k2 k3.1, k3, ⟨h8, Nat.zero_le _, h8, prdL_s hL.1 hM.1, Nat.zero_le _, fun b hb => by cases hb⟩, k4⟩
  obtain ⟨σ2, j1, D2⟩ := s144l (d := d) (by omega) hb hb43 hL hc hc43 hM ((lT M).length + 1) 0 σ1 [] (vI ((lN0 L + lN0 M : Nat) : Int)) (by omega) D1 (by show 0 + _ ≤ _; omega)
  rw [List.nil_append] at D2
  rw [show ((lN0 L + lN0 M : Nat) : Int) = (lN0 L : Nat) + (lN0 M : Nat) by omega] at k1 j1
  refine ⟨σ2, ?_, D2⟩
  rw [ce_144, sg_144_0]
  (try simp (disch := omega) only [f3, p3, m5, n5, w0, w1, e1, e2, wr_id2])
  repeat (first | ((with_reducible refine step_t ?_ ?_); with_reducible exact True.intro) | ((with_reducible refine step_t ?_ ?_); omega) | ((with_reducible refine step_f ?_ ?_); omega))
  refine step_c (k1) ?_
  try dsimp only
  exact j1
theorem c143 (S : AS) {s t u : Int} (hs : i32 s) (ht2 : i32 t) (hu : i32 u) : cOp 143 [vI s, vI t, vI u] S (prdA S s t u) := by
  intro d σ h hy ht hc
  obtain ⟨d, rfl⟩ := ob1 (show 1 ≤ d by omega)
  have y1 := hy.1
  have a1 := y32_m1 hy
  have a43 := y32_1 hy
  have e41 := s41 (d := d) (by omega) hy hc hs
  have f41 := s41 (d := d) (by omega) hy hc ht2
  have e16 := s16 (d := d) (by omega) σ hu
  unfold prdA
  cases e : gl S s with
  | none =>
    rw [lbA_n e] at e41
    refine ⟨σ, ?_, FC.rf hy, hc⟩
    rw [ce_143, sg_143_0]
    repeat (first | ((with_reducible refine step_t ?_ ?_); with_reducible exact True.intro) | ((with_reducible refine step_t ?_ ?_); omega) | ((with_reducible refine step_f ?_ ?_); omega))
    refine step_c (e41) ?_
    try dsimp only
    repeat (first | ((with_reducible refine step_t ?_ ?_); with_reducible exact True.intro) | ((with_reducible refine step_t ?_ ?_); omega) | ((with_reducible refine step_f ?_ ?_); omega))
    refine step_c (f41) ?_
    try dsimp only
    repeat (first | ((with_reducible refine step_t ?_ ?_); with_reducible exact True.intro) | ((with_reducible refine step_t ?_ ?_); omega) | ((with_reducible refine step_f ?_ ?_); omega))
    rfl
  | some L =>
    rw [lbA_s e] at e41
    obtain ⟨g1, g2, g3, g4, g5⟩ := hc.got e
    cases f : gl S t with
    | none =>
      rw [lbA_n f] at f41
      refine ⟨σ, ?_, FC.rf hy, hc⟩
      rw [ce_143, sg_143_0]
      repeat (first | ((with_reducible refine step_t ?_ ?_); with_reducible exact True.intro) | ((with_reducible refine step_t ?_ ?_); omega) | ((with_reducible refine step_f ?_ ?_); omega))
      refine step_c (e41) ?_
      try dsimp only
      repeat (first | ((with_reducible refine step_t ?_ ?_); with_reducible exact True.intro) | ((with_reducible refine step_t ?_ ?_); omega) | ((with_reducible refine step_f ?_ ?_); omega))
      refine step_c (f41) ?_
      try dsimp only
      repeat (first | ((with_reducible refine step_t ?_ ?_); with_reducible exact True.intro) | ((with_reducible refine step_t ?_ ?_); omega) | ((with_reducible refine step_f ?_ ?_); omega))
      rfl
    | some M =>
      rw [lbA_s f] at f41
      obtain ⟨q1, q2, q3, q4, q5⟩ := hc.got f
      obtain ⟨⟨m1, m2, m3, m4, m5, m6, m7, m8, m9⟩, f3, f4, f5, f6, fs, fw⟩ := id g3
      obtain ⟨⟨n1, n2, n3, n4, -⟩, p3, -, -, p6, -⟩ := id q3
      have hl1 := wf_len g4.1
      have hl2 := wf_len q4.1
      have h91 := g4.1.1
      have h92 := q4.1.1
      dsimp only
      by_cases z : 0 ≤ u ∧ u < 3
      · rw [decide_eq_true z] at e16
        rw [if_pos z]
        obtain ⟨b1, b2⟩ := prd_b hl1 hl2
        have hlen := prdF_len L M ((lT M).length + 1) 0 (by omega)
        rw [Nat.sub_zero] at hlen
        by_cases z8 : 8 < lN0 L + lN0 M
        · rw [if_pos (Or.inl z8)]
          refine ⟨σ, ?_, FC.rf hy, hc⟩
          rw [ce_143, sg_143_0]
          repeat (first | ((with_reducible refine step_t ?_ ?_); with_reducible exact True.intro) | ((with_reducible refine step_t ?_ ?_); omega) | ((with_reducible refine step_f ?_ ?_); omega))
          refine step_c (e41) ?_
          try dsimp only
          repeat (first | ((with_reducible refine step_t ?_ ?_); with_reducible exact True.intro) | ((with_reducible refine step_t ?_ ?_); omega) | ((with_reducible refine step_f ?_ ?_); omega))
          refine step_c (f41) ?_
          try dsimp only
          repeat (first | ((with_reducible refine step_t ?_ ?_); with_reducible exact True.intro) | ((with_reducible refine step_t ?_ ?_); omega) | ((with_reducible refine step_f ?_ ?_); omega))
          refine step_c (e16) ?_
          try dsimp only
          rw [wr_b2i]
          refine step_t (show b2i true ≠ 0 by decide) ?_
          (try simp (disch := omega) only [f3, p3, wr_id2])
          repeat (first | ((with_reducible refine step_t ?_ ?_); with_reducible exact True.intro) | ((with_reducible refine step_t ?_ ?_); omega) | ((with_reducible refine step_f ?_ ?_); omega))
          rfl
        · by_cases z9 : 256 < (lT L).length * ((lT M).length + 1) + (lT M).length
          · rw [if_pos (Or.inr z9)]
            refine ⟨σ, ?_, FC.rf hy, hc⟩
            rw [ce_143, sg_143_0]
            repeat (first | ((with_reducible refine step_t ?_ ?_); with_reducible exact True.intro) | ((with_reducible refine step_t ?_ ?_); omega) | ((with_reducible refine step_f ?_ ?_); omega))
            refine step_c (e41) ?_
            try dsimp only
            repeat (first | ((with_reducible refine step_t ?_ ?_); with_reducible exact True.intro) | ((with_reducible refine step_t ?_ ?_); omega) | ((with_reducible refine step_f ?_ ?_); omega))
            refine step_c (f41) ?_
            try dsimp only
            repeat (first | ((with_reducible refine step_t ?_ ?_); with_reducible exact True.intro) | ((with_reducible refine step_t ?_ ?_); omega) | ((with_reducible refine step_f ?_ ?_); omega))
            refine step_c (e16) ?_
            try dsimp only
            rw [wr_b2i]
            refine step_t (show b2i true ≠ 0 by decide) ?_
            (try simp (disch := omega) only [f3, p3, f6, p6, b1, wr_id2])
            repeat (first | ((with_reducible refine step_t ?_ ?_); with_reducible exact True.intro) | ((with_reducible refine step_t ?_ ?_); omega) | ((with_reducible refine step_f ?_ ?_); omega))
            rfl
          · rw [if_neg (by omega)]
            dsimp only
            obtain ⟨σ1, k1, D1⟩ := s144 (d := d) (by omega) hy g3 (by omega) g4 q3 (by omega) q4 (by omega) (by omega)
            have h1 := g4.2.1
            obtain ⟨σ2, j1, F2, C2, B2, _⟩ := dw_set (d := d) (by omega) hc D1 z.1 z.2 (by show 1 ≤ lN0 L + lN0 M; omega) (Nat.zero_le _) (Nat.le_refl _)
            have hy1 := D1.fs.2
            have t1 := hy1.1
            have t2 := y32_m1 hy1
            refine ⟨σ2, ?_, F2, C2⟩
            rw [ce_143, sg_143_0]
            repeat (first | ((with_reducible refine step_t ?_ ?_); with_reducible exact True.intro) | ((with_reducible refine step_t ?_ ?_); omega) | ((with_reducible refine step_f ?_ ?_); omega))
            refine step_c (e41) ?_
            try dsimp only
            repeat (first | ((with_reducible refine step_t ?_ ?_); with_reducible exact True.intro) | ((with_reducible refine step_t ?_ ?_); omega) | ((with_reducible refine step_f ?_ ?_); omega))
            refine step_c (f41) ?_
            try dsimp only
            repeat (first | ((with_reducible refine step_t ?_ ?_); with_reducible exact True.intro) | ((with_reducible refine step_t ?_ ?_); omega) | ((with_reducible refine step_f ?_ ?_); omega))
            refine step_c (e16) ?_
            try dsimp only
            rw [wr_b2i]
            refine step_t (show b2i true ≠ 0 by decide) ?_
            (try simp (disch := omega) only [f3, p3, f6, p6, b1, a43, wr_id2])
            repeat (first | ((with_reducible refine step_t ?_ ?_); with_reducible exact True.intro) | ((with_reducible refine step_t ?_ ?_); omega) | ((with_reducible refine step_f ?_ ?_); omega))
            refine step_c (k1) ?_
            try dsimp only
            rw [sg_143_93]
            repeat (first | ((with_reducible refine step_t ?_ ?_); with_reducible exact True.intro) | ((with_reducible refine step_t ?_ ?_); omega) | ((with_reducible refine step_f ?_ ?_); omega))
            refine step_c (j1) ?_
            try dsimp only
      · rw [decide_eq_false z] at e16
        rw [if_neg z]
        refine ⟨σ, ?_, FC.rf hy, hc⟩
        rw [ce_143, sg_143_0]
        repeat (first | ((with_reducible refine step_t ?_ ?_); with_reducible exact True.intro) | ((with_reducible refine step_t ?_ ?_); omega) | ((with_reducible refine step_f ?_ ?_); omega))
        refine step_c (e41) ?_
        try dsimp only
        repeat (first | ((with_reducible refine step_t ?_ ?_); with_reducible exact True.intro) | ((with_reducible refine step_t ?_ ?_); omega) | ((with_reducible refine step_f ?_ ?_); omega))
        refine step_c (f41) ?_
        try dsimp only
        repeat (first | ((with_reducible refine step_t ?_ ?_); with_reducible exact True.intro) | ((with_reducible refine step_t ?_ ?_); omega) | ((with_reducible refine step_f ?_ ?_); omega))
        refine step_c (e16) ?_
        try dsimp only
        rw [wr_b2i]
        refine step_f (show ¬ (b2i false ≠ 0) by decide) ?_
        rfl
/-- the reference -/
theorem s266l {d : Nat} (h : 2 ≤ d) {σ0 : HP} {n k : Nat} (hn : n < 3) (hk : k < 3) {L M : LB} (hr0 : slR σ0 n L) (hL : wfL L) (hr1 : slR σ0 k M) (hM : wfL M) {u : Int} : ∀ (m i : Nat) (σ : HP) (l : List Nat), i + m = (lT M).length + 1 → DM σ0 σ l → l.length + (prdF L M m i).length ≤ 600 → ∃ σ', rsP PG0 MX d 266 87 [vR 101, vI n, vI k, vI u, vI (lN0 L : Nat), vI ((lT L).length : Nat), vI ((lT M).length : Nat), vI i] [] σ = rsP PG0 MX d 266 87 [vR 101, vI n, vI k, vI u, vI (lN0 L : Nat), vI ((lT L).length : Nat), vI ((lT M).length : Nat), vI (((lT M).length + 1 : Nat) : Int)] [] σ' ∧ DM σ0 σ' (l ++ prdF L M m i) := by
  have hl1 := wf_len hL.1
  have hl2 := wf_len hM.1
  have h9 := hL.1.1
  intro m
  induction m with
  | zero =>
    intro i σ l hi hD hlen
    refine ⟨σ, ?_, by rw [show prdF L M 0 i = [] from rfl, List.append_nil]; exact hD⟩
    rw [show i = (lT M).length + 1 by omega]
  | succ m ih =>
    intro i σ l hi hD hlen
    have hy := hD.1.2
    have y1 := hy.1; have k101 := y101_m1 hy
    rw [prdF_c] at hlen
    have er : i_rem (i : Int) 2 = ((i % 2 : Nat) : Int) := i_rem_n (b := 2) (by omega) (by omega) (by omega)
    have e0 : slc L 0 ((lT L).length - 0) = lT L := slc_all L
    have kA : ∃ σ1, (if i % 2 = 0 then clR PG0 MX d 254 [vR 101, vI n, vI 0, vI ((lT L).length : Nat)] σ else clR PG0 MX d 255 [vR 101, vI n, vI 0, vI ((lT L).length : Nat)] σ) = some (0, σ1) ∧ DM σ0 σ1 (l ++ (if i % 2 = 0 then lT L else (lT L).reverse)) := by
      by_cases z : i % 2 = 0
      · rw [if_pos z, if_pos z]
        obtain ⟨σ1, k1, D1⟩ := dm_on (d := d) h hn hr0 hL.1 (i := 0) (j := (lT L).length) (by omega) (by omega) hD (by omega)
        rw [e0] at D1
        exact ⟨σ1, k1, D1⟩
      · rw [if_neg z, if_neg z]
        obtain ⟨σ1, k1, D1⟩ := dm_bk (d := d) h hn hr0 hL.1 (i := 0) (j := (lT L).length) (by omega) (by omega) hD (by omega)
        rw [e0] at D1
        exact ⟨σ1, k1, D1⟩
    obtain ⟨σ1, k1, D1⟩ := kA
    have hlA : (if i % 2 = 0 then lT L else (lT L).reverse).length = (lT L).length := by
      by_cases z : i % 2 = 0
      · rw [if_pos z]
      · rw [if_neg z, List.length_reverse]
    have hy1 := D1.1.2
    have y1b := hy1.1; have k101b := y101_m1 hy1
    have kB : ∃ σ2, rsP PG0 MX d 266 120 [vR 101, vI n, vI k, vI u, vI (lN0 L : Nat), vI ((lT L).length : Nat), vI ((lT M).length : Nat), vI i] [] σ1 = rsP PG0 MX d 266 87 [vR 101, vI n, vI k, vI u, vI (lN0 L : Nat), vI ((lT L).length : Nat), vI ((lT M).length : Nat), vI ((i + 1 : Nat) : Int)] [] σ2 ∧ DM σ0 σ2 (l ++ (if i % 2 = 0 then lT L else (lT L).reverse) ++ (slc M i 1).map (· + lN0 L)) := by
      by_cases z : i < (lT M).length
      · rw [slc_1 (by omega), if_pos z] at hlen
        obtain ⟨x, hx⟩ := st_get (L := M) (i := i) z
        obtain ⟨σ2, k2, D2⟩ := dm_push (d := d) (by omega) D1 (by rw [List.length_append, hlA]; omega) (x + lN0 L)
        have es : (slc M i 1).map (· + lN0 L) = [x + lN0 L] := by rw [slc_cons hx, slc_0]; rfl
        rw [es]
        refine ⟨σ2, ?_, D2⟩
        rw [sg_266_120]
        (try simp (disch := omega) only [wr_id2])
        repeat (first | ((with_reducible refine step_t ?_ ?_); with_reducible exact True.intro) | ((with_reducible refine step_t ?_ ?_); omega) | ((with_reducible refine step_f ?_ ?_); omega))
        refine step_c (s205 (by omega) hy1 hk (D1.1.slr hr1) hM.1 hx) ?_
        try dsimp only
        repeat (first | ((with_reducible refine step_t ?_ ?_); with_reducible exact True.intro) | ((with_reducible refine step_t ?_ ?_); omega) | ((with_reducible refine step_f ?_ ?_); omega))
        rw [show ((x + lN0 L : Nat) : Int) = (lN0 L : Nat) + (x : Int) by omega] at k2
        refine step_c (k2) ?_
        try dsimp only
        rfl
      · have es : slc M i 1 = [] := by unfold slc; rw [List.drop_eq_nil_of_le (by omega)]; rfl
        rw [es, List.map_nil, List.append_nil]
        refine ⟨σ1, ?_, D1⟩
        rw [sg_266_120]
        (try simp (disch := omega) only [wr_id2])
        repeat (first | ((with_reducible refine step_t ?_ ?_); with_reducible exact True.intro) | ((with_reducible refine step_t ?_ ?_); omega) | ((with_reducible refine step_f ?_ ?_); omega))
        rfl
    obtain ⟨σ2, k2, D2⟩ := kB
    obtain ⟨σ3, k3, D3⟩ := ih (i + 1) σ2 _ (by omega) D2 (by rw [List.length_append, List.length_append, hlA, List.length_map]; omega)
    have ed : l ++ prdF L M (m + 1) i = l ++ (if i % 2 = 0 then lT L else (lT L).reverse) ++ (slc M i 1).map (· + lN0 L) ++ prdF L M m (i + 1) := by
      show l ++ ((if i % 2 = 0 then lT L else (lT L).reverse) ++ (slc M i 1).map (· + lN0 L) ++ prdF L M m (i + 1)) = _
      simp only [List.append_assoc]
    rw [ed]
    refine ⟨σ3, ?_, D3⟩
    rw [← k3, sg_266_87]
    (try simp (disch := omega) only [er, wr_id2])
    refine step_f (by omega) ?_
    by_cases z : i % 2 = 0
    · rw [if_pos z] at k1
      repeat (first | ((with_reducible refine step_t ?_ ?_); with_reducible exact True.intro) | ((with_reducible refine step_t ?_ ?_); omega) | ((with_reducible refine step_f ?_ ?_); omega))
      refine step_c (k1) ?_
      try dsimp only
      exact k2
    · rw [if_neg z] at k1
      repeat (first | ((with_reducible refine step_t ?_ ?_); with_reducible exact True.intro) | ((with_reducible refine step_t ?_ ?_); omega) | ((with_reducible refine step_f ?_ ?_); omega))
      refine step_c (k1) ?_
      try dsimp only
      exact k2
theorem m266 (S : AS) {s t u : Int} (hs : i32 s) (ht2 : i32 t) (hu : i32 u) : mOp 266 [vI s, vI t, vI u] S (prdA S s t u) := by
  intro d σ h hy ht hm
  obtain ⟨d, rfl⟩ := ob1 (show 1 ≤ d by omega)
  have y1 := hy.1; have k101 := y101_m1 hy; have p102 := y101_0 hy; have k102 := y102_m1 hy; have l102 := y102_m2 hy
  have e178 := s178 (d := d) (by omega) σ hu
  unfold prdA
  cases e : gl S s with
  | none =>
    refine ⟨σ, ?_, (FM.rf hy).fl, hm⟩
    rw [ce_266, sg_266_0]
    repeat (first | ((with_reducible refine step_t ?_ ?_); with_reducible exact True.intro) | ((with_reducible refine step_t ?_ ?_); omega) | ((with_reducible refine step_f ?_ ?_); omega))
    refine step_c (s180n (by omega) hy hm hs e) ?_
    try dsimp only
    (try simp (disch := omega) only [wr_id2])
    repeat (first | ((with_reducible refine step_t ?_ ?_); with_reducible exact True.intro) | ((with_reducible refine step_t ?_ ?_); omega) | ((with_reducible refine step_f ?_ ?_); omega))
    rfl
  | some L =>
    have e180 := s180s (d := d) (by omega) hy hm hs e
    obtain ⟨n, rfl, hn, hr, hw, en⟩ := hm.got e
    cases f : gl S t with
    | none =>
      refine ⟨σ, ?_, (FM.rf hy).fl, hm⟩
      rw [ce_266, sg_266_0]
      repeat (first | ((with_reducible refine step_t ?_ ?_); with_reducible exact True.intro) | ((with_reducible refine step_t ?_ ?_); omega) | ((with_reducible refine step_f ?_ ?_); omega))
      refine step_c (e180) ?_
      try dsimp only
      (try simp (disch := omega) only [wr_id2])
      repeat (first | ((with_reducible refine step_t ?_ ?_); with_reducible exact True.intro) | ((with_reducible refine step_t ?_ ?_); omega) | ((with_reducible refine step_f ?_ ?_); omega))
      refine step_c (s180n (by omega) hy hm ht2 f) ?_
      try dsimp only
      (try simp (disch := omega) only [wr_id2])
      repeat (first | ((with_reducible refine step_t ?_ ?_); with_reducible exact True.intro) | ((with_reducible refine step_t ?_ ?_); omega) | ((with_reducible refine step_f ?_ ?_); omega))
      rfl
    | some M =>
      have f180 := s180s (d := d) (by omega) hy hm ht2 f
      obtain ⟨k, rfl, hk, hr2, hM, ek⟩ := hm.got f
      have hl1 := wf_len hw.1
      have hl2 := wf_len hM.1
      have h91 := hw.1.1
      have h92 := hM.1.1
      have sL := lS_256 hw.1
      have sM := lS_256 hM.1
      have e207 := s207 (d := d) (by omega) hy hn hr
      have f207 := s207 (d := d) (by omega) hy hk hr2
      have e204 := s204 (d := d) (by omega) hy hn hr
      have f204 := s204 (d := d) (by omega) hy hk hr2
      dsimp only
      by_cases z : 0 ≤ u ∧ u < 3
      · rw [decide_eq_true (show 0 ≤ u ∧ u ≤ 2 by omega)] at e178
        rw [if_pos z]
        obtain ⟨b1, b2⟩ := prd_b hl1 hl2
        have hlen := prdF_len L M ((lT M).length + 1) 0 (by omega)
        rw [Nat.sub_zero] at hlen
        by_cases z8 : 8 < lN0 L + lN0 M
        · rw [if_pos (Or.inl z8)]
          refine ⟨σ, ?_, (FM.rf hy).fl, hm⟩
          rw [ce_266, sg_266_0]
          repeat (first | ((with_reducible refine step_t ?_ ?_); with_reducible exact True.intro) | ((with_reducible refine step_t ?_ ?_); omega) | ((with_reducible refine step_f ?_ ?_); omega))
          refine step_c (e180) ?_
          try dsimp only
          (try simp (disch := omega) only [wr_id2])
          repeat (first | ((with_reducible refine step_t ?_ ?_); with_reducible exact True.intro) | ((with_reducible refine step_t ?_ ?_); omega) | ((with_reducible refine step_f ?_ ?_); omega))
          refine step_c (f180) ?_
          try dsimp only
          (try simp (disch := omega) only [wr_id2])
          repeat (first | ((with_reducible refine step_t ?_ ?_); with_reducible exact True.intro) | ((with_reducible refine step_t ?_ ?_); omega) | ((with_reducible refine step_f ?_ ?_); omega))
          refine step_c (e178) ?_
          try dsimp only
          rw [wr_b2i]
          refine step_t (show b2i true ≠ 0 by decide) ?_
          repeat (first | ((with_reducible refine step_t ?_ ?_); with_reducible exact True.intro) | ((with_reducible refine step_t ?_ ?_); omega) | ((with_reducible refine step_f ?_ ?_); omega))
          refine step_c (e207) ?_
          try dsimp only
          rw [sg_266_33]
          repeat (first | ((with_reducible refine step_t ?_ ?_); with_reducible exact True.intro) | ((with_reducible refine step_t ?_ ?_); omega) | ((with_reducible refine step_f ?_ ?_); omega))
          refine step_c (e204) ?_
          try dsimp only
          repeat (first | ((with_reducible refine step_t ?_ ?_); with_reducible exact True.intro) | ((with_reducible refine step_t ?_ ?_); omega) | ((with_reducible refine step_f ?_ ?_); omega))
          refine step_c (f204) ?_
          try dsimp only
          repeat (first | ((with_reducible refine step_t ?_ ?_); with_reducible exact True.intro) | ((with_reducible refine step_t ?_ ?_); omega) | ((with_reducible refine step_f ?_ ?_); omega))
          refine step_c (f207) ?_
          try dsimp only
          (try simp (disch := omega) only [wr_id2])
          repeat (first | ((with_reducible refine step_t ?_ ?_); with_reducible exact True.intro) | ((with_reducible refine step_t ?_ ?_); omega) | ((with_reducible refine step_f ?_ ?_); omega))
          rfl
        · by_cases z9 : 256 < (lT L).length * ((lT M).length + 1) + (lT M).length
          · rw [if_pos (Or.inr z9)]
            refine ⟨σ, ?_, (FM.rf hy).fl, hm⟩
            rw [ce_266, sg_266_0]
            repeat (first | ((with_reducible refine step_t ?_ ?_); with_reducible exact True.intro) | ((with_reducible refine step_t ?_ ?_); omega) | ((with_reducible refine step_f ?_ ?_); omega))
            refine step_c (e180) ?_
            try dsimp only
            (try simp (disch := omega) only [wr_id2])
            repeat (first | ((with_reducible refine step_t ?_ ?_); with_reducible exact True.intro) | ((with_reducible refine step_t ?_ ?_); omega) | ((with_reducible refine step_f ?_ ?_); omega))
            refine step_c (f180) ?_
            try dsimp only
            (try simp (disch := omega) only [wr_id2])
            repeat (first | ((with_reducible refine step_t ?_ ?_); with_reducible exact True.intro) | ((with_reducible refine step_t ?_ ?_); omega) | ((with_reducible refine step_f ?_ ?_); omega))
            refine step_c (e178) ?_
            try dsimp only
            rw [wr_b2i]
            refine step_t (show b2i true ≠ 0 by decide) ?_
            repeat (first | ((with_reducible refine step_t ?_ ?_); with_reducible exact True.intro) | ((with_reducible refine step_t ?_ ?_); omega) | ((with_reducible refine step_f ?_ ?_); omega))
            refine step_c (e207) ?_
            try dsimp only
            rw [sg_266_33]
            repeat (first | ((with_reducible refine step_t ?_ ?_); with_reducible exact True.intro) | ((with_reducible refine step_t ?_ ?_); omega) | ((with_reducible refine step_f ?_ ?_); omega))
            refine step_c (e204) ?_
            try dsimp only
            repeat (first | ((with_reducible refine step_t ?_ ?_); with_reducible exact True.intro) | ((with_reducible refine step_t ?_ ?_); omega) | ((with_reducible refine step_f ?_ ?_); omega))
            refine step_c (f204) ?_
            try dsimp only
            repeat (first | ((with_reducible refine step_t ?_ ?_); with_reducible exact True.intro) | ((with_reducible refine step_t ?_ ?_); omega) | ((with_reducible refine step_f ?_ ?_); omega))
            refine step_c (f207) ?_
            try dsimp only
            (try simp (disch := omega) only [b1, wr_id2])
            repeat (first | ((with_reducible refine step_t ?_ ?_); with_reducible exact True.intro) | ((with_reducible refine step_t ?_ ?_); omega) | ((with_reducible refine step_f ?_ ?_); omega))
            rfl
          · rw [if_neg (by omega)]
            dsimp only
            have D0 := dm_0 hy
            obtain ⟨σ1, k1, D1⟩ := s266l (d := d) (by omega) hn hk hr hw hr2 hM (u := u) ((lT M).length + 1) 0 _ [] (by omega) D0 (by show 0 + _ ≤ _; omega)
            rw [List.nil_append] at D1
            have hwP := prd_wf hw hM (by omega) (by omega)
            have hp := pow8 h91
            have hsm : lS M * 2 ^ lN0 L < 2147483648 := by
              have := Nat.mul_le_mul (show lS M ≤ 256 by omega) hp
              omega
            have e1 : i_shl ((lS M : Nat) : Int) (lN0 L : Nat) = ((lS M * 2 ^ lN0 L : Nat) : Int) := i_shl_n (by omega) hsm
            have e2 : i_or ((lS L : Nat) : Int) ((lS M * 2 ^ lN0 L : Nat) : Int) = ((lS L ||| lS M * 2 ^ lN0 L : Nat) : Int) := i_or_n (by omega) hsm
            obtain ⟨σ2, i1, i2, i3, i4, i5, i6⟩ := s182 (d := d) (by omega) D1.1.2 (D1.1.fq.mr hm) (s := u.toNat) (by omega) D1.2 (o := some (prdL L M)) (a := ((lN0 L + lN0 M : Nat) : Int)) (b := 0) (c := ((lN0 L + lN0 M : Nat) : Int)) (e := ((lS L ||| lS M * 2 ^ lN0 L : Nat) : Int)) rfl rfl rfl rfl rfl (fun i _ => encA_st _ i)
            obtain ⟨σ3, j1, j2, j3⟩ := s197 (d := d) (by omega) i2.2 i3 (s := u.toNat) (by omega) i4 i5 hm.wf (fun Q e => by cases e; exact hwP) ((prdF L M ((lT M).length + 1) 0).length : Nat)
            rw [show ((u.toNat : Nat) : Int) = u by omega, show ((lN0 L + lN0 M : Nat) : Int) = (lN0 L : Nat) + (lN0 M : Nat) by omega] at i1
            have y2 := D1.1.2
            have y1c := y2.1; have k101c := y101_m1 y2
            have y3 := i2.2
            have y1d := y3.1; have k101d := y101_m1 y3
            have e5 := i6.1
            refine ⟨σ3, ?_, ((D1.1.fq.fm.tr i2).tr j2).fl, j3⟩
            rw [ce_266, sg_266_0]
            repeat (first | ((with_reducible refine step_t ?_ ?_); with_reducible exact True.intro) | ((with_reducible refine step_t ?_ ?_); omega) | ((with_reducible refine step_f ?_ ?_); omega))
            refine step_c (e180) ?_
            try dsimp only
            (try simp (disch := omega) only [wr_id2])
            repeat (first | ((with_reducible refine step_t ?_ ?_); with_reducible exact True.intro) | ((with_reducible refine step_t ?_ ?_); omega) | ((with_reducible refine step_f ?_ ?_); omega))
            refine step_c (f180) ?_
            try dsimp only
            (try simp (disch := omega) only [wr_id2])
            repeat (first | ((with_reducible refine step_t ?_ ?_); with_reducible exact True.intro) | ((with_reducible refine step_t ?_ ?_); omega) | ((with_reducible refine step_f ?_ ?_); omega))
            refine step_c (e178) ?_
            try dsimp only
            rw [wr_b2i]
            refine step_t (show b2i true ≠ 0 by decide) ?_
            repeat (first | ((with_reducible refine step_t ?_ ?_); with_reducible exact True.intro) | ((with_reducible refine step_t ?_ ?_); omega) | ((with_reducible refine step_f ?_ ?_); omega))
            refine step_c (e207) ?_
            try dsimp only
            rw [sg_266_33]
            repeat (first | ((with_reducible refine step_t ?_ ?_); with_reducible exact True.intro) | ((with_reducible refine step_t ?_ ?_); omega) | ((with_reducible refine step_f ?_ ?_); omega))
            refine step_c (e204) ?_
            try dsimp only
            repeat (first | ((with_reducible refine step_t ?_ ?_); with_reducible exact True.intro) | ((with_reducible refine step_t ?_ ?_); omega) | ((with_reducible refine step_f ?_ ?_); omega))
            refine step_c (f204) ?_
            try dsimp only
            repeat (first | ((with_reducible refine step_t ?_ ?_); with_reducible exact True.intro) | ((with_reducible refine step_t ?_ ?_); omega) | ((with_reducible refine step_f ?_ ?_); omega))
            refine step_c (f207) ?_
            try dsimp only
            (try simp (disch := omega) only [b1, wr_id2])
            repeat (first | ((with_reducible refine step_t ?_ ?_); with_reducible exact True.intro) | ((with_reducible refine step_t ?_ ?_); omega) | ((with_reducible refine step_f ?_ ?_); omega))
            refine Eq.trans k1 ?_
            rw [sg_266_87]
            (try simp (disch := omega) only [wr_id2])
            repeat (first | ((with_reducible refine step_t ?_ ?_); with_reducible exact True.intro) | ((with_reducible refine step_t ?_ ?_); omega) | ((with_reducible refine step_f ?_ ?_); omega))
            refine step_c (s207 (by omega) y2 hk (D1.1.slr hr2)) ?_
            try dsimp only
            repeat (first | ((with_reducible refine step_t ?_ ?_); with_reducible exact True.intro) | ((with_reducible refine step_t ?_ ?_); omega) | ((with_reducible refine step_f ?_ ?_); omega))
            refine step_c (s181 (by omega) y2 hn (j := 3) (by omega) (by omega)) ?_
            try dsimp only
            repeat (first | ((with_reducible refine step_t ?_ ?_); with_reducible exact True.intro) | ((with_reducible refine step_t ?_ ?_); omega) | ((with_reducible refine step_f ?_ ?_); omega))
            refine step_c (s181 (by omega) y2 hk (j := 3) (by omega) (by omega)) ?_
            try dsimp only
            rw [(D1.1.slr hr).2.2.2.1, (D1.1.slr hr2).2.2.2.1, e1, e2]
            repeat (first | ((with_reducible refine step_t ?_ ?_); with_reducible exact True.intro) | ((with_reducible refine step_t ?_ ?_); omega) | ((with_reducible refine step_f ?_ ?_); omega))
            refine step_c (i1) ?_
            try dsimp only
            rw [sg_266_183]
            (try simp (disch := omega) only [e5, wr_id2])
            repeat (first | ((with_reducible refine step_t ?_ ?_); with_reducible exact True.intro) | ((with_reducible refine step_t ?_ ?_); omega) | ((with_reducible refine step_f ?_ ?_); omega))
            refine step_c (j1) ?_
            try dsimp only
      · rw [decide_eq_false (show ¬ (0 ≤ u ∧ u ≤ 2) by omega)] at e178
        rw [if_neg z]
        refine ⟨σ, ?_, (FM.rf hy).fl, hm⟩
        rw [ce_266, sg_266_0]
        repeat (first | ((with_reducible refine step_t ?_ ?_); with_reducible exact True.intro) | ((with_reducible refine step_t ?_ ?_); omega) | ((with_reducible refine step_f ?_ ?_); omega))
        refine step_c (e180) ?_
        try dsimp only
        (try simp (disch := omega) only [wr_id2])
        repeat (first | ((with_reducible refine step_t ?_ ?_); with_reducible exact True.intro) | ((with_reducible refine step_t ?_ ?_); omega) | ((with_reducible refine step_f ?_ ?_); omega))
        refine step_c (f180) ?_
        try dsimp only
        (try simp (disch := omega) only [wr_id2])
        repeat (first | ((with_reducible refine step_t ?_ ?_); with_reducible exact True.intro) | ((with_reducible refine step_t ?_ ?_); omega) | ((with_reducible refine step_f ?_ ?_); omega))
        refine step_c (e178) ?_
        try dsimp only
        rw [wr_b2i]
        refine step_f (show ¬ (b2i false ≠ 0) by decide) ?_
        rfl
