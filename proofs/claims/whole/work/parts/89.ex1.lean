/-! EXTEND: which steps are cut -/
theorem s251l {d : Nat} {σ : HP} : ∀ (m : Nat) (x c : Int) (u0 u1 u4 : MV), pcN 64 (lu x) = m → 0 ≤ c → c + m ≤ 1000 → rsP PG0 MX d 251 4 [u0, u1, vI c, vL x, u4] [] σ = some (c + m, σ) := by
  intro m
  induction m with
  | zero =>
    intro x c u0 u1 u4 hm h1 h2
    obtain ⟨z0, z1, z2⟩ := l_cmp0 x
    have e : lu x = 0 := by
      by_cases q : lu x = 0
      · exact q
      · have := pc_clr 64 (lu x) (by omega) (lu_lt x)
        omega
    have := z0.mpr e
    rw [sg_251_4]
    (try simp (disch := omega) only [wr_id2])
    repeat (first | ((with_reducible refine step_t ?_ ?_); with_reducible exact True.intro) | ((with_reducible refine step_t ?_ ?_); omega) | ((with_reducible refine step_f ?_ ?_); omega))
    rw [show c + ((0 : Nat) : Int) = c by omega]
  | succ m ih =>
    intro x c u0 u1 u4 hm h1 h2
    obtain ⟨z0, z1, z2⟩ := l_cmp0 x
    have hx := lu_lt x
    have ne : lu x ≠ 0 := fun q => by rw [q, pc_z] at hm; omega
    have nz : l_cmp x 0 ≠ 0 := fun q => ne (z0.mp q)
    have e : lu (l_and x (x - 1)) = lu x &&& (lu x - 1) := by
      rw [lu_and, lu_sub, show lu 1 = 1 from lu_n (n := 1) (by omega), show (lu x + 18446744073709551616 - 1) % 18446744073709551616 = lu x - 1 by omega]
    have k := pc_clr 64 (lu x) (by omega) hx
    have q := ih (l_and x (x - 1)) (c + 1) vU vU vU (by rw [e]; omega) (by omega) (by omega)
    rw [sg_251_4]
    (try simp (disch := omega) only [wr_id2])
    repeat (first | ((with_reducible refine step_t ?_ ?_); with_reducible exact True.intro) | ((with_reducible refine step_t ?_ ?_); omega) | ((with_reducible refine step_f ?_ ?_); omega))
    rw [show c + ((m + 1 : Nat) : Int) = c + 1 + (m : Nat) by omega]
    exact q
theorem pc_64 : ∀ (n u : Nat), pcN n u ≤ n := by
  intro n
  induction n with
  | zero => intro u; exact Nat.le_refl _
  | succ n ih =>
    intro u
    have := ih (u / 2)
    show u % 2 + pcN n (u / 2) ≤ n + 1
    omega
theorem s251 {d : Nat} (h : 1 ≤ d) (σ : HP) (x : Int) : clR PG0 MX d 251 [vL x] σ = some (((pcN 64 (lu x) : Nat) : Int), σ) := by
  obtain ⟨d, rfl⟩ := ob1 (show 1 ≤ d by omega)
  have := pc_64 64 (lu x)
  have q := s251l (d := d) (σ := σ) (pcN 64 (lu x)) x 0 (vL x) vU vU rfl (Int.le_refl _) (by omega)
  rw [Int.zero_add] at q
  rw [ce_251, sg_251_0]
  exact q
/-- may these cuts be made -/
def cutB (L : LB) (c : Int) : Bool := (decide (64 ≤ (lT L).length - 1) || decide (lu c / 2 ^ ((lT L).length - 1) = 0)) && decide (pcN 64 (lu c) % 2 = 0)
theorem s118 {d : Nat} (h : 8 ≤ d) {σ : HP} {b : Int} {L : LB} (hb : blr σ b L) (hw : wf0 L) (c : Int) : clR PG0 MX d 118 [vR b, vL c] σ = some (b2i (cutB L c), σ) := by
  obtain ⟨d, rfl⟩ := ob1 (show 1 ≤ d by omega)
  obtain ⟨⟨m1, m2, m3, m4, m5, m6, m7, m8, m9⟩, f3, f4, f5, f6, fs, fw⟩ := id hb
  have hl := wf_len hw
  have e119 := s119 (d := d) (by omega) σ c
  have p64 := pc_64 64 (lu c)
  have er := i_rem_n (a := pcN 64 (lu c)) (b := 2) (by omega) (by omega) (by omega)
  have er : i_rem ((pcN 64 (lu c) : Nat) : Int) 2 = ((pcN 64 (lu c) % 2 : Nat) : Int) := er
  have tail : ∀ (y : Int) (u3 : MV), ((64 ≤ (lT L).length - 1 ∧ y = 0) ∨ ((lT L).length - 1 < 64 ∧ lu y = lu c / 2 ^ ((lT L).length - 1))) → rsP PG0 MX d 118 24 [vR b, vL c, vU, u3, vU, vU] [vL y] σ = some (b2i (cutB L c), σ) := fun y u3 hy => by
    obtain ⟨z0, z1, z2⟩ := l_cmp0 y
    have ez : (decide (64 ≤ (lT L).length - 1) || decide (lu c / 2 ^ ((lT L).length - 1) = 0)) = decide (l_cmp y 0 = 0) := by
      rcases hy with ⟨q1, q2⟩ | ⟨q1, q2⟩
      · rw [decide_eq_true q1, Bool.true_or, decide_eq_true (z0.mpr (by rw [q2]; rfl))]
      · rw [decide_eq_false (by omega), Bool.false_or, ← q2]
        by_cases q : lu y = 0
        · rw [decide_eq_true q, decide_eq_true (z0.mpr q)]
        · rw [decide_eq_false q, decide_eq_false (fun w => q (z0.mp w))]
    unfold cutB
    rw [ez, sg_118_24]
    by_cases z : l_cmp y 0 = 0
    · rw [decide_eq_true z, Bool.true_and]
      (try simp (disch := omega) only [wr_id2])
      repeat (first | ((with_reducible refine step_t ?_ ?_); with_reducible exact True.intro) | ((with_reducible refine step_t ?_ ?_); omega) | ((with_reducible refine step_f ?_ ?_); omega))
      refine step_c (e119) ?_
      try dsimp only
      rw [er]
      (try simp (disch := omega) only [wr_id2])
      by_cases q : pcN 64 (lu c) % 2 = 0
      · rw [decide_eq_true q]
        repeat (first | ((with_reducible refine step_t ?_ ?_); with_reducible exact True.intro) | ((with_reducible refine step_t ?_ ?_); omega) | ((with_reducible refine step_f ?_ ?_); omega))
        rfl
      · rw [decide_eq_false q]
        repeat (first | ((with_reducible refine step_t ?_ ?_); with_reducible exact True.intro) | ((with_reducible refine step_t ?_ ?_); omega) | ((with_reducible refine step_f ?_ ?_); omega))
        rfl
    · rw [decide_eq_false z, Bool.false_and]
      (try simp (disch := omega) only [wr_id2])
      repeat (first | ((with_reducible refine step_t ?_ ?_); with_reducible exact True.intro) | ((with_reducible refine step_t ?_ ?_); omega) | ((with_reducible refine step_f ?_ ?_); omega))
      rfl
  rw [ce_118, sg_118_0, f6]
  repeat (first | ((with_reducible refine step_t ?_ ?_); with_reducible exact True.intro) | ((with_reducible refine step_t ?_ ?_); omega) | ((with_reducible refine step_f ?_ ?_); omega))
  refine step_c (p_max (by omega) σ _ _) ?_
  try dsimp only
  have em : (if wr (((lT L).length : Nat) - 1 : Int) < wr 0 then (0 : Int) else ((lT L).length : Nat) - 1) = (((lT L).length - 1 : Nat) : Int) := by
    rw [wr_id2 (by omega), wr_0]
    by_cases q : (lT L).length = 0
    · rw [if_pos (by omega), q]; rfl
    · rw [if_neg (by omega)]; omega
  rw [em]
  by_cases z : (lT L).length - 1 < 64
  · (try simp (disch := omega) only [wr_id2])
    repeat (first | ((with_reducible refine step_t ?_ ?_); with_reducible exact True.intro) | ((with_reducible refine step_t ?_ ?_); omega) | ((with_reducible refine step_f ?_ ?_); omega))
    exact tail _ _ (Or.inr ⟨z, lu_ushr z⟩)
  · (try simp (disch := omega) only [wr_id2])
    repeat (first | ((with_reducible refine step_t ?_ ?_); with_reducible exact True.intro) | ((with_reducible refine step_t ?_ ?_); omega) | ((with_reducible refine step_f ?_ ?_); omega))
    exact tail _ _ (Or.inl ⟨by omega, rfl⟩)
