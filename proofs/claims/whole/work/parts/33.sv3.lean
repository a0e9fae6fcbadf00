-- @after 30 31
/-- lesser -/
def lsr (x y : Int) : Int := if x = -1 then y else if y = -1 then x else min x y
theorem wr_m1 : wr (-1) = -1 := by decide
theorem s80 {d : Nat} (h : 7 ≤ d) (σ : HP) {x y : Int} (hx : -1 ≤ x ∧ x ≤ 1000) (hy : -1 ≤ y ∧ y ≤ 1000) : clR PG0 MX d 80 [vI x, vI y] σ = some (lsr x y, σ) := by
  obtain ⟨d, rfl⟩ := ob1 (show 1 ≤ d by omega)
  rw [ce_80, sg_80_0]
  (try simp (disch := omega) only [wr_id2])
  unfold lsr
  refine step_i (fun g => ?_) (fun g => ?_)
  · rw [if_neg (show ¬ x = -1 by omega)]
    refine step_i (fun g2 => ?_) (fun g2 => ?_)
    · refine step_c (p_min (by omega) σ _ _) ?_
      try dsimp only
      (try simp (disch := omega) only [wr_id2])
      rw [if_neg (show ¬ y = -1 by omega)]
      by_cases z : y < x
      · rw [if_pos z, Int.min_eq_right (by omega)]
      · rw [if_neg z, Int.min_eq_left (by omega)]
    · rw [if_pos (show y = -1 by omega)]
  · rw [if_pos (show x = -1 by omega)]
theorem lsr_b {x y : Int} (hx : -1 ≤ x ∧ x ≤ 600) (hy : -1 ≤ y ∧ y ≤ 600) : -1 ≤ lsr x y ∧ lsr x y ≤ 600 := by
  unfold lsr
  by_cases z : x = -1
  · rw [if_pos z]; omega
  · rw [if_neg z]
    by_cases z2 : y = -1
    · rw [if_pos z2]; omega
    · rw [if_neg z2]; omega
/-- gapOf: the least so far, the first, the latest -/
def gapF (L : LB) (x : Nat) : Nat → Nat → Int × Int × Int → Int × Int × Int
  | 0, _, t => t
  | m + 1, i, (a, f, l) => if (lT L)[i]? = some x then (if f = -1 then gapF L x m (i + 1) (a, (i : Int), (i : Int)) else gapF L x m (i + 1) (lsr a (i - l), f, (i : Int))) else gapF L x m (i + 1) (a, f, l)
def gapE (L : LB) (t : Int × Int × Int) : Int := if t.2.1 = -1 then t.1 else if lpB L = true then lsr t.1 (t.2.1 + (lT L).length - t.2.2) else t.1
def gapN (L : LB) (x : Nat) : Int := gapE L (gapF L x (lT L).length 0 (-1, -1, -1))
theorem s79l {d : Nat} (h : 7 ≤ d) {σ : HP} {b : Int} {L : LB} (hb : blr σ b L) (hw : wf0 L) {x : Nat} (hx : x < 1000) : ∀ (m i : Nat) (a f l : Int), i + m = (lT L).length → -1 ≤ a ∧ a ≤ 600 → -1 ≤ f ∧ f < i → (f ≤ l ∧ l < i) → rsP PG0 MX d 79 10 [vR b, vI x, vI a, vI f, vI l, vI i] [] σ = some (gapE L (gapF L x m i (a, f, l)), σ) ∧ (-1 ≤ gapE L (gapF L x m i (a, f, l)) ∧ gapE L (gapF L x m i (a, f, l)) ≤ 600) := by
  obtain ⟨⟨m1, m2, m3, m4, m5, m6, m7, m8, m9⟩, f3, f4, f5, f6, fs, fw⟩ := id hb
  have hl := wf_len hw
  intro m
  induction m with
  | zero =>
    intro i a f l hi ha hf hll
    have e : gapF L x 0 i (a, f, l) = (a, f, l) := rfl
    rw [e]
    have hB := lsr_b ha (show -1 ≤ f + (lT L).length - l ∧ f + (lT L).length - l ≤ 600 by omega)
    rw [sg_79_10]
    unfold gapE
    dsimp only
    refine ⟨?_, ?_⟩
    · (try simp (disch := omega) only [f6, wr_id2])
      repeat (first | refine step_t trivial ?_ | refine step_t (by omega) ?_ | refine step_f (by omega) ?_)
      refine step_i (fun g => ?_) (fun g => ?_)
      · rw [if_pos (show f = -1 by omega)]
      · rw [if_neg (show ¬ f = -1 by omega)]
        repeat (first | refine step_t trivial ?_ | refine step_t (by omega) ?_ | refine step_f (by omega) ?_)
        refine step_c (s43 (by omega) hb hw) ?_
        try dsimp only
        rw [wr_b2i]
        cases lpB L
        · refine step_t (show b2i false = 0 by decide) ?_
          rw [if_neg (by decide)]
        · refine step_f (show ¬ (b2i true = 0) by decide) ?_
          (try simp (disch := omega) only [f6, wr_id2])
          repeat (first | refine step_t trivial ?_ | refine step_t (by omega) ?_ | refine step_f (by omega) ?_)
          refine step_c (s80 (by omega) σ (by omega) (by omega)) ?_
          try dsimp only
          rw [if_pos trivial]
    · by_cases z : f = -1
      · rw [if_pos z]; exact ha
      · rw [if_neg z]
        by_cases z2 : lpB L = true
        · rw [if_pos z2]; exact hB
        · rw [if_neg z2]; exact ha
  | succ m ih =>
    intro i a f l hi ha hf hll
    obtain ⟨y, y1, y2⟩ := st_at hb (i := i) (by omega)
    have y3 := st_lt hw y1
    have h9 := hw.1
    rw [sg_79_10]
    (try simp (disch := omega) only [f6, m4, y2, wr_id2])
    unfold gapF
    rw [y1]
    by_cases e : y = x
    · rw [if_pos (by rw [e])]
      by_cases z : f = -1
      · rw [if_pos z]
        obtain ⟨k1, k2⟩ := ih (i + 1) a i i (by omega) ha (by omega) (by omega)
        refine ⟨?_, k2⟩
        repeat (first | refine step_t trivial ?_ | refine step_t (by omega) ?_ | refine step_f (by omega) ?_)
        exact k1
      · rw [if_neg z]
        have hB := lsr_b ha (show -1 ≤ (i : Int) - l ∧ (i : Int) - l ≤ 600 by omega)
        obtain ⟨k1, k2⟩ := ih (i + 1) (lsr a (i - l)) f i (by omega) hB (by omega) (by omega)
        refine ⟨?_, k2⟩
        repeat (first | refine step_t trivial ?_ | refine step_t (by omega) ?_ | refine step_f (by omega) ?_)
        refine step_c (s80 (by omega) σ (by omega) (by omega)) ?_
        try dsimp only
        exact k1
    · rw [if_neg (fun z => e (Option.some.inj z))]
      obtain ⟨k1, k2⟩ := ih (i + 1) a f l (by omega) ha (by omega) (by omega)
      refine ⟨?_, k2⟩
      repeat (first | refine step_t trivial ?_ | refine step_t (by omega) ?_ | refine step_f (by omega) ?_)
      exact k1
theorem s79 {d : Nat} (h : 8 ≤ d) {σ : HP} {b : Int} {L : LB} (hb : blr σ b L) (hw : wf0 L) {x : Nat} (hx : x < 1000) : clR PG0 MX d 79 [vR b, vI x] σ = some (gapN L x, σ) ∧ -1 ≤ gapN L x ∧ gapN L x ≤ 600 := by
  obtain ⟨d, rfl⟩ := ob1 (show 1 ≤ d by omega)
  rw [ce_79, sg_79_0]
  exact s79l (by omega) hb hw hx _ 0 (-1) (-1) (-1) (by omega) (by omega) (by omega) (by omega)
/-- leastGap -/
def lgpF (L : LB) : Nat → Nat → Int → Int
  | 0, _, a => a
  | m + 1, x, a => lgpF L m (x + 1) (lsr a (gapN L x))
theorem s78l {d : Nat} (h : 8 ≤ d) {σ : HP} {b : Int} {L : LB} (hb : blr σ b L) (hw : wf0 L) : ∀ (m x : Nat) (a : Int), x + m = lN0 L → -1 ≤ a ∧ a ≤ 600 → rsP PG0 MX d 78 4 [vR b, vI a, vI x] [] σ = some (lgpF L m x a, σ) := by
  obtain ⟨⟨m1, m2, m3, m4, m5, m6, m7, m8, m9⟩, f3, f4, f5, f6, fs, fw⟩ := id hb
  have h9 := hw.1
  have hl := wf_len hw
  intro m
  induction m with
  | zero =>
    intro x a hx ha
    rw [sg_78_4]
    (try simp (disch := omega) only [f3, wr_id2])
    repeat (first | refine step_t trivial ?_ | refine step_t (by omega) ?_ | refine step_f (by omega) ?_)
    rfl
  | succ m ih =>
    intro x a hx ha
    obtain ⟨g1, g2⟩ := s79 (d := d) h hb hw (x := x) (by omega)
    rw [sg_78_4]
    (try simp (disch := omega) only [f3, wr_id2])
    repeat (first | refine step_t trivial ?_ | refine step_t (by omega) ?_ | refine step_f (by omega) ?_)
    refine step_c (g1) ?_
    try dsimp only
    refine step_c (s80 (by omega) σ (by omega) (by omega)) ?_
    try dsimp only
    exact ih (x + 1) _ (by omega) (lsr_b ha g2)
theorem s78 {d : Nat} (h : 9 ≤ d) {σ : HP} {b : Int} {L : LB} (hb : blr σ b L) (hw : wf0 L) : clR PG0 MX d 78 [vR b] σ = some (lgpF L (lN0 L) 0 (-1), σ) := by
  obtain ⟨d, rfl⟩ := ob1 (show 1 ≤ d by omega)
  rw [ce_78, sg_78_0]
  exact s78l (by omega) hb hw _ 0 (-1) (by omega) (by omega)
/-- placeOfLevel -/
def plvF (L : LB) (l : Int) (z : Bool) : Nat → Nat → Int → Int
  | 0, _, f => f
  | m + 1, i, f => plvF L l z m (i + 1) (if ((pop (wd L i) : Nat) : Int) = l ∧ (z = true ∨ f = -1) then (i : Int) else f)
theorem s87l {d : Nat} (h : 1 ≤ d) {σ : HP} {b : Int} {L : LB} (hb : blr σ b L) (hw : wf0 L) {l : Int} (hl2 : i32 l) {z : Bool} : ∀ (m i : Nat) (f : Int), i + m = shN L → -1 ≤ f ∧ f ≤ 600 → rsP PG0 MX d 87 11 [vR b, vI l, vI (b2i z), vI (shN L : Nat), vI f, vI i] [] σ = some (plvF L l z m i f, σ) := by
  obtain ⟨⟨m1, m2, m3, m4, m5, m6, m7, m8, m9⟩, f3, f4, f5, f6, fs, fw⟩ := id hb
  have hl := wf_len hw
  have hs := shN_le L
  have hk1 := hl2.1
  have hk2 := hl2.2
  intro m
  induction m with
  | zero =>
    intro i f hi hf
    rw [sg_87_11]
    (try simp (disch := omega) only [wr_id2])
    repeat (first | refine step_t trivial ?_ | refine step_t (by omega) ?_ | refine step_f (by omega) ?_)
    rfl
  | succ m ih =>
    intro i f hi hf
    have p1 := pop_le _ (wd_256 hw i)
    rw [sg_87_11]
    (try simp (disch := omega) only [m5, fw i (by omega), wr_id2])
    repeat (first | refine step_t trivial ?_ | refine step_t (by omega) ?_ | refine step_f (by omega) ?_)
    refine step_c (s50 (by omega) σ (wd_256 hw i)) ?_
    try dsimp only
    (try simp (disch := omega) only [wr_b2i, wr_id2])
    unfold plvF
    refine step_i (fun g => ?_) (fun g => ?_)
    · rw [if_neg (show ¬ (((pop (wd L i) : Nat) : Int) = l ∧ (z = true ∨ f = -1)) from fun q => by omega)]
      exact ih (i + 1) f (by omega) hf
    · cases z
      · refine step_f (show ¬ (b2i false ≠ 0) by decide) ?_
        refine step_i (fun g2 => ?_) (fun g2 => ?_)
        · rw [if_neg (show ¬ (((pop (wd L i) : Nat) : Int) = l ∧ (false = true ∨ f = -1)) from fun q => by rcases q.2 with q | q; cases q; omega)]
          exact ih (i + 1) f (by omega) hf
        · rw [if_pos (show ((pop (wd L i) : Nat) : Int) = l ∧ (false = true ∨ f = -1) from ⟨by omega, Or.inr (by omega)⟩)]
          exact ih (i + 1) i (by omega) (by omega)
      · refine step_t (show b2i true ≠ 0 by decide) ?_
        rw [if_pos (show ((pop (wd L i) : Nat) : Int) = l ∧ (true = true ∨ f = -1) from ⟨by omega, Or.inl rfl⟩)]
        exact ih (i + 1) i (by omega) (by omega)
theorem s87 {d : Nat} (h : 3 ≤ d) {σ : HP} {b : Int} {L : LB} (hb : blr σ b L) (hw : wf0 L) {l : Int} (hl2 : i32 l) {z : Bool} : clR PG0 MX d 87 [vR b, vI l, vI (b2i z)] σ = some (plvF L l z (shN L) 0 (-1), σ) := by
  obtain ⟨d, rfl⟩ := ob1 (show 1 ≤ d by omega)
  obtain ⟨⟨m1, m2, m3, m4, m5, m6, m7, m8, m9⟩, f3, f4, f5, f6, fs, fw⟩ := id hb
  rw [ce_87, sg_87_0]
  repeat (first | refine step_t trivial ?_ | refine step_t (by omega) ?_ | refine step_f (by omega) ?_)
  refine step_c (s42 (by omega) hb hw) ?_
  try dsimp only
  exact s87l (by omega) hb hw hl2 _ 0 (-1) (by omega) (by omega)
/-- stepsBetween -/
def clbB (L : LB) (u v : Int) (i : Nat) : Bool := decide (((pop (wd L i) : Nat) : Int) = u) && decide (((pop (wd L (i + 1)) : Nat) : Int) = v)
theorem s97l {d : Nat} (h : 1 ≤ d) {σ : HP} {b : Int} {L : LB} (hb : blr σ b L) (hw : wf0 L) {u v : Int} (hu : i32 u) (hv : i32 v) : ∀ (m i : Nat), i + m = (lT L).length → rsP PG0 MX d 97 5 [vR b, vI u, vI v, vI (cntB (clbB L u v) i : Nat), vI i] [] σ = some (((cntB (clbB L u v) (lT L).length : Nat) : Int), σ) := by
  obtain ⟨⟨m1, m2, m3, m4, m5, m6, m7, m8, m9⟩, f3, f4, f5, f6, fs, fw⟩ := id hb
  have hl := wf_len hw
  have hk1 := hu.1
  have hk2 := hu.2
  have hk3 := hv.1
  have hk4 := hv.2
  intro m
  induction m with
  | zero =>
    intro i hi
    have : i = (lT L).length := by omega
    subst this
    rw [sg_97_5]
    (try simp (disch := omega) only [f6, wr_id2])
    repeat (first | refine step_t trivial ?_ | refine step_t (by omega) ?_ | refine step_f (by omega) ?_)
    rfl
  | succ m ih =>
    intro i hi
    have p1 := pop_le _ (wd_256 hw i)
    have p2 := pop_le _ (wd_256 hw (i + 1))
    have e := fw (i + 1) (by omega)
    rw [Int.natCast_add] at e
    have e : σ (b + 2) ((i : Int) + 1) = ((wd L (i + 1) : Nat) : Int) := e
    have hq := ih (i + 1) (by omega)
    have e9 : cntB (clbB L u v) (i + 1) = cntB (clbB L u v) i + (bif clbB L u v i then 1 else 0) := rfl
    rw [e9] at hq
    unfold clbB at hq ⊢
    rw [sg_97_5]
    (try simp (disch := omega) only [f6, m5, fw i (by omega), wr_id2])
    repeat (first | refine step_t trivial ?_ | refine step_t (by omega) ?_ | refine step_f (by omega) ?_)
    refine step_c (s50 (by omega) σ (wd_256 hw i)) ?_
    try dsimp only
    (try simp (disch := omega) only [wr_id2])
    refine step_i (fun g => ?_) (fun g => ?_)
    · rw [decide_eq_false (show ¬ ((pop (wd L i) : Nat) : Int) = u by omega)] at hq
      exact hq
    · rw [decide_eq_true (show ((pop (wd L i) : Nat) : Int) = u by omega)] at hq
      (try simp (disch := omega) only [m5, e, wr_id2])
      repeat (first | refine step_t trivial ?_ | refine step_t (by omega) ?_ | refine step_f (by omega) ?_)
      refine step_c (s50 (by omega) σ (wd_256 hw (i + 1))) ?_
      try dsimp only
      (try simp (disch := omega) only [wr_id2])
      refine step_i (fun g2 => ?_) (fun g2 => ?_)
      · rw [decide_eq_false (show ¬ ((pop (wd L (i + 1)) : Nat) : Int) = v by omega)] at hq
        exact hq
      · rw [decide_eq_true (show ((pop (wd L (i + 1)) : Nat) : Int) = v by omega)] at hq
        exact hq
theorem s97 {d : Nat} (h : 2 ≤ d) {σ : HP} {b : Int} {L : LB} (hb : blr σ b L) (hw : wf0 L) {u v : Int} (hu : i32 u) (hv : i32 v) : clR PG0 MX d 97 [vR b, vI u, vI v] σ = some (((cntB (clbB L u v) (lT L).length : Nat) : Int), σ) := by
  obtain ⟨d, rfl⟩ := ob1 (show 1 ≤ d by omega)
  rw [ce_97, sg_97_0]
  exact s97l (d := d) (by omega) hb hw hu hv (lT L).length 0 (by omega)
/-- twistablePairs -/
def twI (L : LB) (i : Nat) : Nat → Nat → Nat → Nat
  | 0, _, a => a
  | m + 1, j, a => twI L i m (j + 1) (a + (bif twB L i j then 1 else 0))
def twO (L : LB) : Nat → Nat → Nat → Nat
  | 0, _, a => a
  | m + 1, i, a => twO L m (i + 1) (twI L i ((lT L).length - (i + 2)) (i + 2) a)
theorem twI_le (L : LB) (i : Nat) : ∀ m j a, twI L i m j a ≤ a + m := by
  intro m
  induction m with
  | zero => intro j a; exact Nat.le_refl _
  | succ m ih =>
    intro j a
    have := ih (j + 1) (a + (bif twB L i j then 1 else 0))
    show twI L i m (j + 1) _ ≤ _
    cases h : twB L i j
    · rw [h] at this; simp only [cond_false] at *; omega
    · rw [h] at this; simp only [cond_true] at *; omega
theorem s149i {d : Nat} (h : 2 ≤ d) {σ : HP} {b : Int} {L : LB} (hb : blr σ b L) (hw : wf0 L) {i : Nat} (hi : i < (lT L).length) : ∀ (m j a : Nat), j + m = (lT L).length → a ≤ 100000 - m → rsP PG0 MX d 149 16 [vR b, vI a, vI i, vI j] [] σ = rsP PG0 MX d 149 4 [vR b, vI (twI L i m j a : Nat), vI ((i + 1 : Nat) : Int), vI (lT L).length] [] σ := by
  obtain ⟨⟨m1, m2, m3, m4, m5, m6, m7, m8, m9⟩, f3, f4, f5, f6, fs, fw⟩ := id hb
  have hl := wf_len hw
  intro m
  induction m with
  | zero =>
    intro j a hj ha
    have : j = (lT L).length := by omega
    subst this
    rw [sg_149_16]
    (try simp (disch := omega) only [f6, wr_id2])
    repeat (first | refine step_t trivial ?_ | refine step_t (by omega) ?_ | refine step_f (by omega) ?_)
    rfl
  | succ m ih =>
    intro j a hj ha
    rw [sg_149_16]
    (try simp (disch := omega) only [f6, wr_id2])
    repeat (first | refine step_t trivial ?_ | refine step_t (by omega) ?_ | refine step_f (by omega) ?_)
    refine step_c (s146 (by omega) hb hw (by omega) (by omega)) ?_
    try dsimp only
    rw [wr_b2i]
    unfold twI
    cases twB L i j
    · refine step_t (show b2i false = 0 by decide) ?_
      exact ih (j + 1) a (by omega) (by omega)
    · refine step_f (show ¬ (b2i true = 0) by decide) ?_
      exact ih (j + 1) (a + 1) (by omega) (by omega)
theorem s149l {d : Nat} (h : 2 ≤ d) {σ : HP} {b : Int} {L : LB} (hb : blr σ b L) (hw : wf0 L) : ∀ (m i a : Nat) (u : MV), i + m = (lT L).length → a ≤ 300 * i → rsP PG0 MX d 149 4 [vR b, vI a, vI i, u] [] σ = some (((twO L m i a : Nat) : Int), σ) := by
  obtain ⟨⟨m1, m2, m3, m4, m5, m6, m7, m8, m9⟩, f3, f4, f5, f6, fs, fw⟩ := id hb
  have hl := wf_len hw
  intro m
  induction m with
  | zero =>
    intro i a u hi ha
    rw [sg_149_4]
    (try simp (disch := omega) only [f6, wr_id2])
    repeat (first | refine step_t trivial ?_ | refine step_t (by omega) ?_ | refine step_f (by omega) ?_)
    rfl
  | succ m ih =>
    intro i a u hi ha
    rw [sg_149_4]
    (try simp (disch := omega) only [f6, wr_id2])
    repeat (first | refine step_t trivial ?_ | refine step_t (by omega) ?_ | refine step_f (by omega) ?_)
    unfold twO
    have hq := twI_le L i ((lT L).length - (i + 2)) (i + 2) a
    by_cases z : i + 2 ≤ (lT L).length
    · refine Eq.trans (s149i (d := d) h hb hw (i := i) (by omega) ((lT L).length - (i + 2)) (i + 2) a (by omega) (by omega)) ?_
      exact ih (i + 1) _ _ (by omega) (by omega)
    · rw [sg_149_16]
      (try simp (disch := omega) only [f6, wr_id2])
      repeat (first | refine step_t trivial ?_ | refine step_t (by omega) ?_ | refine step_f (by omega) ?_)
      have e : (lT L).length - (i + 2) = 0 := by omega
      rw [e] at hq ⊢
      exact ih (i + 1) a _ (by omega) (by omega)
theorem s149 {d : Nat} (h : 3 ≤ d) {σ : HP} {b : Int} {L : LB} (hb : blr σ b L) (hw : wf0 L) : clR PG0 MX d 149 [vR b] σ = some (((twO L (lT L).length 0 0 : Nat) : Int), σ) := by
  obtain ⟨d, rfl⟩ := ob1 (show 1 ≤ d by omega)
  rw [ce_149, sg_149_0]
  exact s149l (by omega) hb hw _ 0 0 _ (by omega) (by omega)
