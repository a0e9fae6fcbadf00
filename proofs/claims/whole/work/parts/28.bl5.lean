/-- rungOf -/
def rung (L : LB) (i : Nat) : Nat := min (pop (wd L i)) (pop (wd L (i + 1)))
theorem s56 {d : Nat} (h : 7 ≤ d) {σ : HP} {b : Int} {L : LB} {i : Nat} (hb : blr σ b L) (hw : wf0 L) (hi : i < (lT L).length) : clR PG0 MX d 56 [vR b, vI i] σ = some (((rung L i : Nat) : Int), σ) := by
  obtain ⟨d, rfl⟩ := ob1 (show 1 ≤ d by omega)
  obtain ⟨⟨m1, m2, m3, m4, m5, m6, m7, m8, m9⟩, f3, f4, f5, f6, fs, fw⟩ := id hb
  have hl := wf_len hw
  have ei : wr ((i : Int) + 1) = ((i + 1 : Nat) : Int) := wr_id (by omega) (by omega)
  have p1 := pop_le _ (wd_256 hw i)
  have p2 := pop_le _ (wd_256 hw (i + 1))
  rw [ce_56, sg_56_0]
  simp only [m5, wrn (n := i) (by omega), ei, fw i (by omega)]
  repeat (refine step_t (by omega) ?_)
  refine step_c (s50 (by omega) σ (wd_256 hw i)) ?_
  try dsimp only
  simp only [m5, fw (i + 1) (by omega)]
  repeat (refine step_t (by omega) ?_)
  refine step_c (s50 (by omega) σ (wd_256 hw (i + 1))) ?_
  try dsimp only
  refine step_c (p_min (by omega) σ _ _) ?_
  try dsimp only
  rw [wrn (n := pop (wd L i)) (by omega), wrn (n := pop (wd L (i + 1))) (by omega)]
  unfold rung
  by_cases hc : pop (wd L (i + 1)) < pop (wd L i)
  · rw [if_pos (by omega), Nat.min_eq_right (by omega)]
  · rw [if_neg (by omega), Nat.min_eq_left (by omega)]
/-- canTwist -/
def twB (L : LB) (i j : Nat) : Bool := decide (pop (wd L i ^^^ wd L j) = 1) && decide (pop (wd L (i + 1) ^^^ wd L (j + 1)) = 1)
theorem xor_256 {a b : Nat} (ha : a < 256) (hb : b < 256) : a ^^^ b < 256 := Nat.xor_lt_two_pow (n := 8) ha hb
theorem s146 {d : Nat} (h : 2 ≤ d) {σ : HP} {b : Int} {L : LB} {i j : Nat} (hb : blr σ b L) (hw : wf0 L) (hi : i < (lT L).length) (hj : j < (lT L).length) : clR PG0 MX d 146 [vR b, vI i, vI j] σ = some (b2i (twB L i j), σ) := by
  obtain ⟨d, rfl⟩ := ob1 (show 1 ≤ d by omega)
  obtain ⟨⟨m1, m2, m3, m4, m5, m6, m7, m8, m9⟩, f3, f4, f5, f6, fs, fw⟩ := id hb
  have hl := wf_len hw
  have ei : wr ((i : Int) + 1) = ((i + 1 : Nat) : Int) := wr_id (by omega) (by omega)
  have ej : wr ((j : Int) + 1) = ((j + 1 : Nat) : Int) := wr_id (by omega) (by omega)
  have q1 := wd_256 hw i
  have q2 := wd_256 hw j
  have q3 := wd_256 hw (i + 1)
  have q4 := wd_256 hw (j + 1)
  have p1 := pop_le _ (xor_256 q1 q2)
  have p2 := pop_le _ (xor_256 q3 q4)
  rw [ce_146, sg_146_0]
  simp only [m5, wrn (n := i) (by omega), wrn (n := j) (by omega), ei, ej, fw i (by omega), fw j (by omega), wr_1]
  rw [i_xor_n (by omega) (by omega)]
  repeat (refine step_t (by omega) ?_)
  refine step_c (s50 (by omega) σ (xor_256 q1 q2)) ?_
  try dsimp only
  simp only [m5, wrn (n := pop (wd L i ^^^ wd L j)) (show pop (wd L i ^^^ wd L j) < 2147483648 by omega), fw (i + 1) (by omega), fw (j + 1) (by omega)]
  unfold twB
  refine step_i (fun h1 => ?_) (fun h1 => ?_)
  · rw [decide_eq_false (by omega)]; rfl
  · rw [decide_eq_true (show pop (wd L i ^^^ wd L j) = 1 by omega)]
    repeat (refine step_t (by omega) ?_)
    rw [i_xor_n (by omega) (by omega)]
    refine step_c (s50 (by omega) σ (xor_256 q3 q4)) ?_
    try dsimp only
    simp only [wrn (n := pop (wd L (i + 1) ^^^ wd L (j + 1))) (show pop (wd L (i + 1) ^^^ wd L (j + 1)) < 2147483648 by omega)]
    refine step_i (fun h2 => ?_) (fun h2 => ?_)
    · rw [decide_eq_false (by omega)]; rfl
    · rw [decide_eq_true (by omega)]; rfl
/-- matches -/
theorem LB_ext {L M : LB} (h1 : lN0 L = lN0 M) (h2 : lA L = lA M) (h3 : lB L = lB M) (h4 : lS L = lS M) (h5 : lT L = lT M) : L = M := by
  obtain ⟨a, b, c, d, e⟩ := L
  obtain ⟨a', b', c', d', e'⟩ := M
  cases h1; cases h2; cases h3; cases h4; cases h5
  rfl
theorem s33l {d : Nat} {σ : HP} {b c : Int} {L M : LB} (hb : blr σ b L) (hw : wf0 L) (hc : blr σ c M) (hM : wf0 M) (hn : (lT L).length = (lT M).length) : ∀ (n i : Nat), i + n = (lT L).length → (∀ j, j < i → (lT L)[j]? = (lT M)[j]?) → rsP PG0 MX d 33 76 [vR b, vR c, vI i] [] σ = some (b2i (decide (lT L = lT M)), σ) := by
  obtain ⟨⟨m1, m2, m3, m4, m5, m6, m7, m8, m9⟩, f3, f4, f5, f6, fs, fw⟩ := id hb
  obtain ⟨⟨n1, n2, n3, n4, n5, n6, n7, n8, n9⟩, k3, k4, k5, k6, ks, kw⟩ := id hc
  have hl := wf_len hw
  intro n
  induction n with
  | zero =>
    intro i hi hj
    rw [sg_33_76]
    simp only [f6, wr_len hw, wrn (n := i) (by omega)]
    refine step_t (by omega) ?_
    refine step_t (by omega) ?_
    have e : lT L = lT M := List.ext_getElem? (fun j => by
      by_cases z : j < i
      · exact hj j z
      · rw [List.getElem?_eq_none (by omega), List.getElem?_eq_none (by omega)])
    rw [decide_eq_true e]
    rfl
  | succ n ih =>
    intro i hi hj
    obtain ⟨x, x1, x2⟩ := st_at hb (i := i) (by omega)
    obtain ⟨y, y1, y2⟩ := st_at hc (i := i) (by omega)
    have x3 := st_lt hw x1
    have y3 := st_lt hM y1
    have h8 := hw.1
    have h9 := hM.1
    rw [sg_33_76]
    simp only [f6, wr_len hw, wrn (n := i) (by omega), m4, n4, x2, y2, wrn (n := x) (by omega), wrn (n := y) (by omega)]
    refine step_t (by omega) ?_
    refine step_f (by omega) ?_
    refine step_t (by omega) ?_
    refine step_t (by omega) ?_
    refine step_t (by omega) ?_
    refine step_t (by omega) ?_
    refine step_i (fun z => ?_) (fun z => ?_)
    · refine ih (i + 1) (by omega) (fun j hj2 => ?_)
      by_cases e : j = i
      · subst e
        rw [x1, y1]
        congr 1
        omega
      · exact hj j (by omega)
    · rw [decide_eq_false (fun e => z (by rw [e] at x1; rw [x1] at y1; have := Option.some.inj y1; omega))]
      rfl
theorem s33 {d : Nat} (h : 1 ≤ d) {σ : HP} {b c : Int} {L M : LB} (hb : blr σ b L) (hw : wf0 L) (hc : blr σ c M) (hM : wf0 M) {x y : Bool} (ex : σ b 2 = b2i x) (ey : σ c 2 = b2i y) : clR PG0 MX d 33 [vR b, vR c] σ = some (b2i (decide (x = y) && decide (L = M)), σ) := by
  obtain ⟨d, rfl⟩ := ob1 (show 1 ≤ d by omega)
  obtain ⟨⟨m1, m2, m3, m4, m5, m6, m7, m8, m9⟩, f3, f4, f5, f6, fs, fw⟩ := id hb
  obtain ⟨⟨n1, n2, n3, n4, n5, n6, n7, n8, n9⟩, k3, k4, k5, k6, ks, kw⟩ := id hc
  have hl := wf_len hw
  have hl2 := wf_len hM
  have w0 : σ (b + 2) 0 = (wd L 0 : Nat) := fw 0 (Nat.zero_le _)
  have w1 : σ (c + 2) 0 = (wd M 0 : Nat) := kw 0 (Nat.zero_le _)
  have z0 : wd L 0 = lS L := by show wdL _ _ 0 = _; cases lT L <;> rfl
  have z1 : wd M 0 = lS M := by show wdL _ _ 0 = _; cases lT M <;> rfl
  rw [ce_33, sg_33_0]
  simp only [ex, ey, wr_b2i, f3, f4, f5, f6, k3, k4, k5, k6, wr_N hw, wr_N hM, wr_A hw, wr_A hM, wr_B hw, wr_B hM, wr_len hw, wr_len hM, m5, n5, wr_0, w0, w1, wr_wd hw, wr_wd hM]
  rw [z0, z1]
  refine step_t (by omega) ?_
  refine step_t (by omega) ?_
  refine step_i (fun g => ?_) (fun g => ?_)
  · rw [decide_eq_false (fun e => g (by rw [e]))]; rfl
  · have exy : x = y := by
      revert g
      cases x <;> cases y <;> simp [b2i]
    rw [decide_eq_true exy]
    refine step_t (by omega) ?_
    refine step_t (by omega) ?_
    refine step_i (fun g2 => ?_) (fun g2 => ?_)
    · rw [decide_eq_false (fun e => g2 (by rw [e]))]; rfl
    · refine step_t (by omega) ?_
      refine step_t (by omega) ?_
      refine step_i (fun g3 => ?_) (fun g3 => ?_)
      · refine step_t (by omega) ?_
        refine step_t (by omega) ?_
        refine step_i (fun g4 => ?_) (fun g4 => ?_)
        · rw [decide_eq_false (fun e => g4 (by rw [e]))]; rfl
        · refine step_t (by omega) ?_
          refine step_t (by omega) ?_
          refine step_i (fun g5 => ?_) (fun g5 => ?_)
          · rw [decide_eq_false (fun e => g5 (by rw [e]))]; rfl
          · refine step_t (by omega) ?_
            refine step_t (by omega) ?_
            refine step_t (by omega) ?_
            refine step_t (by omega) ?_
            refine step_i (fun g6 => ?_) (fun g6 => ?_)
            · have e := s33l (d := d) hb hw hc hM (by omega) (lT L).length 0 (by omega) (fun j hj => by omega)
              have e2 : decide (L = M) = decide (lT L = lT M) := by
                by_cases q : lT L = lT M
                · rw [decide_eq_true q, decide_eq_true (LB_ext (by omega) (by omega) (by omega) (by omega) q)]
                · rw [decide_eq_false q, decide_eq_false (fun z => q (by rw [z]))]
              rw [e2]
              exact e
            · rw [decide_eq_false (fun e => g6 (by rw [e]))]; rfl
      · rw [decide_eq_false (fun e => g3 (by rw [e]))]; rfl
