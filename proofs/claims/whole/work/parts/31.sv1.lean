-- @after 2
theorem wr_id2 {x : Int} (h : -2147483648 ≤ x ∧ x ≤ 2147483647) : wr x = x := wr_id h.1 h.2
/-- isMonotone -/
def monF (L : LB) : Nat → Nat → Nat → Bool
  | 0, _, _ => true
  | m + 1, i, h => if h < rung L i + 2 then monF L m (i + 1) (max h (rung L i)) else false
theorem rung_8 {L : LB} (hw : wf0 L) (i : Nat) : rung L i ≤ 8 := by
  have p1 := pop_le _ (wd_256 hw i)
  unfold rung
  omega
theorem s55l {d : Nat} (h : 8 ≤ d) {σ : HP} {b : Int} {L : LB} (hb : blr σ b L) (hw : wf0 L) : ∀ (m i x : Nat) (u : MV), i + m = (lT L).length → x ≤ 8 → rsP PG0 MX d 55 4 [vR b, vI x, vI i, u] [] σ = some (b2i (monF L m i x), σ) := by
  obtain ⟨⟨m1, m2, m3, m4, m5, m6, m7, m8, m9⟩, f3, f4, f5, f6, fs, fw⟩ := id hb
  have hl := wf_len hw
  intro m
  induction m with
  | zero =>
    intro i x u hi hx
    rw [sg_55_4]
    (try simp (disch := omega) only [f6, wr_id2])
    repeat (first | refine step_t trivial ?_ | refine step_t (by omega) ?_ | refine step_f (by omega) ?_)
    rfl
  | succ m ih =>
    intro i x u hi hx
    have hr := rung_8 hw i
    rw [sg_55_4]
    (try simp (disch := omega) only [f6, wr_id2])
    repeat (first | refine step_t trivial ?_ | refine step_t (by omega) ?_ | refine step_f (by omega) ?_)
    refine step_c (s56 (by omega) hb hw (by omega)) ?_
    try dsimp only
    (try simp (disch := omega) only [wr_id2])
    unfold monF
    refine step_i (fun g => ?_) (fun g => ?_)
    · refine step_c (p_max (by omega) σ _ _) ?_
      try dsimp only
      (try simp (disch := omega) only [wr_id2])
      rw [if_pos (show x < rung L i + 2 by omega)]
      by_cases z : x < rung L i
      · rw [if_pos (by omega), Nat.max_eq_right (by omega)]
        exact ih (i + 1) (rung L i) _ (by omega) hr
      · rw [if_neg (by omega), Nat.max_eq_left (by omega)]
        exact ih (i + 1) x _ (by omega) hx
    · rw [if_neg (by omega)]; rfl
theorem s55 {d : Nat} (h : 9 ≤ d) {σ : HP} {b : Int} {L : LB} (hb : blr σ b L) (hw : wf0 L) : clR PG0 MX d 55 [vR b] σ = some (b2i (monF L (lT L).length 0 0), σ) := by
  obtain ⟨d, rfl⟩ := ob1 (show 1 ≤ d by omega)
  rw [ce_55, sg_55_0]
  exact s55l (by omega) hb hw _ 0 0 _ (by omega) (by omega)
/-- placesBetween -/
def pbN (L : LB) (a c : Nat) : Nat := if lpB L then min (if a < c then c - a else a - c) ((lT L).length - (if a < c then c - a else a - c)) else (if a < c then c - a else a - c)
theorem shN_le (L : LB) : shN L ≤ (lT L).length + 1 := by
  unfold shN
  cases lpB L
  · exact Nat.le_refl _
  · exact Nat.le_succ _
theorem shN_lp {L : LB} (h : lpB L = true) : shN L = (lT L).length := by unfold shN; rw [h]; rfl
theorem shN_nl {L : LB} (h : lpB L = false) : shN L = (lT L).length + 1 := by unfold shN; rw [h]; rfl
theorem s58 {d : Nat} (h : 7 ≤ d) {σ : HP} {b : Int} {L : LB} {i j : Nat} (hb : blr σ b L) (hw : wf0 L) (hi : i < shN L) (hj : j < shN L) : clR PG0 MX d 58 [vR b, vI i, vI j] σ = some (((pbN L i j : Nat) : Int), σ) := by
  obtain ⟨d, rfl⟩ := ob1 (show 1 ≤ d by omega)
  obtain ⟨⟨m1, m2, m3, m4, m5, m6, m7, m8, m9⟩, f3, f4, f5, f6, fs, fw⟩ := id hb
  have hl := wf_len hw
  have hs := shN_le L
  rw [ce_58, sg_58_0]
  refine step_c (p_abs (by omega) σ _) ?_
  try dsimp only
  (try simp (disch := omega) only [wr_id2])
  have e : (if 0 ≤ ((i : Int) - j) then ((i : Int) - j) else 0 - ((i : Int) - j)) = (((if i < j then j - i else i - j) : Nat) : Int) := by
    by_cases z : i < j
    · rw [if_neg (by omega), if_pos z]; omega
    · rw [if_pos (by omega), if_neg z]; omega
  rw [e]
  unfold pbN
  have hf : (if i < j then j - i else i - j) ≤ 257 := by
    by_cases z : i < j
    · rw [if_pos z]; omega
    · rw [if_neg z]; omega
  have hf2 : lpB L = true → (if i < j then j - i else i - j) ≤ (lT L).length := by
    intro z
    have := shN_lp z
    by_cases z : i < j
    · rw [if_pos z]; omega
    · rw [if_neg z]; omega
  generalize (if i < j then j - i else i - j) = f at hf hf2 ⊢
  repeat (first | refine step_t trivial ?_ | refine step_t (by omega) ?_ | refine step_f (by omega) ?_)
  refine step_c (s43 (by omega) hb hw) ?_
  try dsimp only
  rw [wr_b2i]
  cases hlp : lpB L
  · refine step_t (show b2i false = 0 by decide) ?_
    rfl
  · refine step_f (show ¬ (b2i true = 0) by decide) ?_
    (try simp (disch := omega) only [f6, wr_id2])
    repeat (first | refine step_t trivial ?_ | refine step_t (by omega) ?_ | refine step_f (by omega) ?_)
    have := hf2 hlp
    refine step_c (p_min (by omega) σ _ _) ?_
    try dsimp only
    (try simp (disch := omega) only [wr_id2])
    rw [if_pos trivial]
    by_cases z : (lT L).length - f < f
    · rw [if_pos (by omega), Nat.min_eq_right (by omega), Int.natCast_sub (by omega)]
    · rw [if_neg (by omega), Nat.min_eq_left (by omega)]
/-- isOpposite -/
def oppF (L : LB) (k : Nat) : Nat → Nat → Bool
  | 0, _ => true
  | m + 1, i => if wd L i ^^^ wd L (i + k) = 2 ^ lN0 L - 1 then oppF L k m (i + 1) else false
def oppB (L : LB) : Bool := lpB L && decide ((lT L).length % 2 = 0) && oppF L ((lT L).length / 2) ((lT L).length / 2) 0
theorem s60l {d : Nat} {σ : HP} {b : Int} {L : LB} (hb : blr σ b L) (hw : wf0 L) (k : Nat) (hk : 2 * k ≤ (lT L).length) : ∀ (m i : Nat), i + m = k → rsP PG0 MX d 60 25 [vR b, vI k, vI ((2 ^ lN0 L - 1 : Nat) : Int), vI i] [] σ = some (b2i (oppF L k m i && decide (k * 2 = (lT L).length)), σ) := by
  obtain ⟨⟨m1, m2, m3, m4, m5, m6, m7, m8, m9⟩, f3, f4, f5, f6, fs, fw⟩ := id hb
  have hl := wf_len hw
  have h8 := pow8 hw.1
  intro m
  induction m with
  | zero =>
    intro i hi
    rw [sg_60_25]
    (try simp (disch := omega) only [f6, wr_id2])
    repeat (first | refine step_t trivial ?_ | refine step_t (by omega) ?_ | refine step_f (by omega) ?_)
    show _ = some (b2i (true && decide (k * 2 = (lT L).length)), σ)
    refine step_i (fun g => ?_) (fun g => ?_)
    · rw [decide_eq_false (by omega)]; rfl
    · rw [decide_eq_true (by omega)]; rfl
  | succ m ih =>
    intro i hi
    have q1 := wd_256 hw i
    have q2 := wd_256 hw (i + k)
    have q3 := xor_256 q1 q2
    have e := fw (i + k) (by omega)
    rw [Int.natCast_add] at e
    rw [sg_60_25]
    (try simp (disch := omega) only [m5, f6, fw i (by omega), e, i_xor_n (show wd L i < 2147483648 by omega) (show wd L (i + k) < 2147483648 by omega), wr_id2])
    repeat (first | refine step_t trivial ?_ | refine step_t (by omega) ?_ | refine step_f (by omega) ?_)
    unfold oppF
    refine step_i (fun g => ?_) (fun g => ?_)
    · rw [if_pos (by omega)]
      exact ih (i + 1) (by omega)
    · rw [if_neg (by omega)]; rfl
theorem s60 {d : Nat} (h : 2 ≤ d) {σ : HP} {b : Int} {L : LB} (hb : blr σ b L) (hw : wf0 L) : clR PG0 MX d 60 [vR b] σ = some (b2i (oppB L), σ) := by
  obtain ⟨d, rfl⟩ := ob1 (show 1 ≤ d by omega)
  obtain ⟨⟨m1, m2, m3, m4, m5, m6, m7, m8, m9⟩, f3, f4, f5, f6, fs, fw⟩ := id hb
  have hl := wf_len hw
  have h8 := pow8 hw.1
  rw [ce_60, sg_60_0]
  (try simp (disch := omega) only [wr_id2])
  repeat (first | refine step_t trivial ?_ | refine step_t (by omega) ?_ | refine step_f (by omega) ?_)
  refine step_c (s43 (by omega) hb hw) ?_
  try dsimp only
  rw [wr_b2i]
  unfold oppB
  cases lpB L
  · refine step_f (show ¬ (b2i false ≠ 0) by decide) ?_
    rfl
  · refine step_t (show b2i true ≠ 0 by decide) ?_
    (try simp (disch := omega) only [f6, i_div_n (a := (lT L).length) (b := 2) (by omega) (by omega) (by omega), wr_id2])
    repeat (first | refine step_t trivial ?_ | refine step_t (by omega) ?_ | refine step_f (by omega) ?_)
    refine step_c (s47 (by omega) hb hw) ?_
    try dsimp only
    have e1 : ((2 ^ lN0 L : Nat) : Int) - 1 = ((2 ^ lN0 L - 1 : Nat) : Int) := by
      have := Nat.one_le_two_pow (n := lN0 L)
      omega
    have e2 : i_div (((lT L).length : Nat) : Int) 2 = (((lT L).length / 2 : Nat) : Int) := i_div_n (a := (lT L).length) (b := 2) (by omega) (by omega) (by omega)
    rw [e1]
    try rw [e2]
    refine Eq.trans (s60l (d := d) hb hw ((lT L).length / 2) (by omega) ((lT L).length / 2) 0 (by omega)) ?_
    have e3 : decide ((lT L).length / 2 * 2 = (lT L).length) = decide ((lT L).length % 2 = 0) := decide_eq_decide.mpr (by omega)
    rw [e3, Bool.and_comm, Bool.true_and]
