-- @after 30 31
/-- longestRow: the row that is under way, the longest -/
def rnP (q : Nat → Bool) : Nat → Nat → Nat × Nat → Nat × Nat
  | 0, _, t => t
  | m + 1, i, t => rnP q m (i + 1) (bif q i then t.1 + 1 else 0, max t.2 (bif q i then t.1 + 1 else 0))
def bvB (L : LB) (x v : Nat) (i : Nat) : Bool := decide (btN (wd L i) x = v)
theorem rnP_le (q : Nat → Bool) : ∀ m i t, (rnP q m i t).1 ≤ t.1 + m ∧ (rnP q m i t).2 ≤ max t.2 (t.1 + m) := by
  intro m
  induction m with
  | zero => intro i t; exact ⟨Nat.le_refl _, by show t.2 ≤ _; omega⟩
  | succ m ih =>
    intro i t
    have h := ih (i + 1) (bif q i then t.1 + 1 else 0, max t.2 (bif q i then t.1 + 1 else 0))
    dsimp only at h
    show (rnP q m (i + 1) _).1 ≤ _ ∧ (rnP q m (i + 1) _).2 ≤ _
    cases hq : q i
    · rw [hq] at h; simp only [cond_false] at *; omega
    · rw [hq] at h; simp only [cond_true] at *; omega
theorem btN_1 (w k : Nat) : btN w k ≤ 1 := by have : btN w k < 2 := Nat.mod_lt _ (by omega); omega
theorem s83i {d : Nat} (h : 6 ≤ d) {σ : HP} {b : Int} {L : LB} (hb : blr σ b L) (hw : wf0 L) {x v R c : Nat} (hx : x < 32) (hv : v < 2) : ∀ (m i : Nat) (t : Nat × Nat), i + m = shN L → t.1 ≤ 100000 - m → t.2 ≤ 100000 → rsP PG0 MX d 83 38 [vR b, vI x, vI v, vI (shN L : Nat), vI (t.2 : Nat), vI (t.1 : Nat), vI R, vI c, vI i] [] σ = rsP PG0 MX d 83 28 [vR b, vI x, vI v, vI (shN L : Nat), vI ((rnP (bvB L x v) m i t).2 : Nat), vI ((rnP (bvB L x v) m i t).1 : Nat), vI R, vI ((c + 1 : Nat) : Int), vI (shN L : Nat)] [] σ := by
  obtain ⟨⟨m1, m2, m3, m4, m5, m6, m7, m8, m9⟩, f3, f4, f5, f6, fs, fw⟩ := id hb
  have hl := wf_len hw
  have hs := shN_le L
  intro m
  induction m with
  | zero =>
    intro i t hi h1 h2
    have : i = shN L := by omega
    subst this
    rw [sg_83_38]
    (try simp (disch := omega) only [wr_id2])
    repeat (first | refine step_t trivial ?_ | refine step_t (by omega) ?_ | refine step_f (by omega) ?_)
    rfl
  | succ m ih =>
    intro i t hi h1 h2
    have b1 := btN_1 (wd L i) x
    rw [sg_83_38]
    (try simp (disch := omega) only [wr_id2])
    repeat (first | refine step_t trivial ?_ | refine step_t (by omega) ?_ | refine step_f (by omega) ?_)
    refine step_c (s64 (by omega) hb hw (by omega) hx) ?_
    try dsimp only
    (try simp (disch := omega) only [wr_id2])
    unfold rnP
    have key : ∀ y : Nat, (bif bvB L x v i then t.1 + 1 else 0) = y → y ≤ 100000 → rsP PG0 MX d 83 63 [vR b, vI x, vI v, vI (shN L : Nat), vI (t.2 : Nat), vI (t.1 : Nat), vI R, vI c, vI i] [vI (y : Nat)] σ = rsP PG0 MX d 83 28 [vR b, vI x, vI v, vI (shN L : Nat), vI ((rnP (bvB L x v) m (i + 1) (bif bvB L x v i then t.1 + 1 else 0, max t.2 (bif bvB L x v i then t.1 + 1 else 0))).2 : Nat), vI ((rnP (bvB L x v) m (i + 1) (bif bvB L x v i then t.1 + 1 else 0, max t.2 (bif bvB L x v i then t.1 + 1 else 0))).1 : Nat), vI R, vI ((c + 1 : Nat) : Int), vI (shN L : Nat)] [] σ := by
      intro y hy hy2
      rw [hy]
      have hy3 : y ≤ 100000 - m := by
        rw [← hy]
        cases bvB L x v i
        · exact Nat.zero_le _
        · show t.1 + 1 ≤ _; omega
      rw [sg_83_63]
      refine step_c (p_max (by omega) σ _ _) ?_
      try dsimp only
      (try simp (disch := omega) only [wr_id2])
      refine Eq.trans ?_ (ih (i + 1) (y, max t.2 y) (by omega) hy3 (by show max t.2 y ≤ _; omega))
      have e : (if (t.2 : Int) < (y : Int) then (y : Int) else (t.2 : Int)) = ((max t.2 y : Nat) : Int) := by
        by_cases z : t.2 < y
        · rw [if_pos (by omega), Nat.max_eq_right (by omega)]
        · rw [if_neg (by omega), Nat.max_eq_left (by omega)]
      rw [e]
      rfl
    refine step_i (fun g => ?_) (fun g => ?_)
    · exact key 0 (by unfold bvB; rw [decide_eq_false (show ¬ btN (wd L i) x = v by omega)]; rfl) (by omega)
    · exact key (t.1 + 1) (by unfold bvB; rw [decide_eq_true (show btN (wd L i) x = v by omega)]; rfl) (by omega)
def rnN (L : LB) (x v : Nat) : Nat := min (rnP (bvB L x v) (shN L) 0 (if lpB L = true then rnP (bvB L x v) (shN L) 0 (0, 0) else (0, 0))).2 (shN L)
theorem s83e {d : Nat} (h : 6 ≤ d) {σ : HP} {b : Int} {L : LB} (hw : wf0 L) {x v R c r a : Nat} (hc : R ≤ c) (hc2 : c < 10) (ha : a ≤ 100000) (u : MV) : rsP PG0 MX d 83 28 [vR b, vI x, vI v, vI (shN L : Nat), vI (a : Nat), vI (r : Nat), vI R, vI c, u] [] σ = some (((min a (shN L) : Nat) : Int), σ) := by
  have hl := wf_len hw
  have hs := shN_le L
  rw [sg_83_28]
  (try simp (disch := omega) only [wr_id2])
  repeat (first | refine step_t trivial ?_ | refine step_t (by omega) ?_ | refine step_f (by omega) ?_)
  refine step_c (p_min (by omega) σ _ _) ?_
  try dsimp only
  (try simp (disch := omega) only [wr_id2])
  by_cases z : shN L < a
  · rw [if_pos (by omega), Nat.min_eq_right (by omega)]
  · rw [if_neg (by omega), Nat.min_eq_left (by omega)]
theorem s83r {d : Nat} (h : 6 ≤ d) {σ : HP} {b : Int} {L : LB} (hb : blr σ b L) (hw : wf0 L) {x v R c : Nat} (hx : x < 32) (hv : v < 2) (hc : c < R) (hR : R < 10) (t : Nat × Nat) (h1 : t.1 ≤ 1000) (h2 : t.2 ≤ 1000) (u : MV) : rsP PG0 MX d 83 28 [vR b, vI x, vI v, vI (shN L : Nat), vI (t.2 : Nat), vI (t.1 : Nat), vI R, vI c, u] [] σ = rsP PG0 MX d 83 28 [vR b, vI x, vI v, vI (shN L : Nat), vI ((rnP (bvB L x v) (shN L) 0 t).2 : Nat), vI ((rnP (bvB L x v) (shN L) 0 t).1 : Nat), vI R, vI ((c + 1 : Nat) : Int), vI (shN L : Nat)] [] σ := by
  have hl := wf_len hw
  have hs := shN_le L
  rw [sg_83_28]
  (try simp (disch := omega) only [wr_id2])
  repeat (first | refine step_t trivial ?_ | refine step_t (by omega) ?_ | refine step_f (by omega) ?_)
  exact s83i (d := d) h hb hw (R := R) (c := c) hx hv (shN L) 0 t (by omega) (by omega) (by omega)
theorem s83 {d : Nat} (h : 7 ≤ d) {σ : HP} {b : Int} {L : LB} (hb : blr σ b L) (hw : wf0 L) {x v : Nat} (hx : x < 32) (hv : v < 2) : clR PG0 MX d 83 [vR b, vI x, vI v] σ = some (((rnN L x v : Nat) : Int), σ) := by
  obtain ⟨d, rfl⟩ := ob1 (show 1 ≤ d by omega)
  obtain ⟨⟨m1, m2, m3, m4, m5, m6, m7, m8, m9⟩, f3, f4, f5, f6, fs, fw⟩ := id hb
  have hl := wf_len hw
  have hs := shN_le L
  have r1 := rnP_le (bvB L x v) (shN L) 0 (0, 0)
  have r2 := rnP_le (bvB L x v) (shN L) 0 (rnP (bvB L x v) (shN L) 0 (0, 0))
  dsimp only at r1 r2
  rw [ce_83, sg_83_0]
  repeat (first | refine step_t trivial ?_ | refine step_t (by omega) ?_ | refine step_f (by omega) ?_)
  refine step_c (s42 (by omega) hb hw) ?_
  try dsimp only
  repeat (first | refine step_t trivial ?_ | refine step_t (by omega) ?_ | refine step_f (by omega) ?_)
  refine step_c (s43 (by omega) hb hw) ?_
  try dsimp only
  rw [wr_b2i]
  unfold rnN
  cases lpB L
  · refine step_t (show b2i false = 0 by decide) ?_
    rw [if_neg (by decide)]
    refine Eq.trans (s83r (d := d) (by omega) hb hw (R := 1) (c := 0) hx hv (by omega) (by omega) (0, 0) (by omega) (by omega) vU) ?_
    exact s83e (d := d) (by omega) hw (R := 1) (c := 1) (by omega) (by omega) (by omega) _
  · refine step_f (show ¬ (b2i true = 0) by decide) ?_
    rw [if_pos rfl]
    refine Eq.trans (s83r (d := d) (by omega) hb hw (R := 2) (c := 0) hx hv (by omega) (by omega) (0, 0) (by omega) (by omega) vU) ?_
    refine Eq.trans (s83r (d := d) (by omega) hb hw (R := 2) (c := 1) hx hv (by omega) (by omega) (rnP (bvB L x v) (shN L) 0 (0, 0)) (by omega) (by omega) _) ?_
    exact s83e (d := d) (by omega) hw (R := 2) (c := 2) (by omega) (by omega) (by omega) _
/-- rowsOf -/
def begB (L : LB) (x v : Nat) (i : Nat) : Bool := (decide (i = 0) || !(bvB L x v (i - 1))) && bvB L x v i
def rowN (L : LB) (x v : Nat) : Nat := if (lpB L && bvB L x v 0 && bvB L x v (shN L - 1)) = true ∧ 1 < cntB (begB L x v) (shN L) then cntB (begB L x v) (shN L) - 1 else cntB (begB L x v) (shN L)
theorem s85e {d : Nat} {σ : HP} (y : Bool) (c : Nat) (hc : c ≤ 1000) (u0 u1 u2 u3 u5 u6 : MV) : rsP PG0 MX d 85 101 [u0, u1, u2, u3, vI c, u5, u6] [vI (b2i y)] σ = some (((if y = true ∧ 1 < c then c - 1 else c : Nat) : Int), σ) := by
  rw [sg_85_101]
  rw [wr_b2i]
  cases y
  · refine step_t (show b2i false = 0 by decide) ?_
    rw [if_neg (fun q => by cases q.1)]
  · refine step_f (show ¬ (b2i true = 0) by decide) ?_
    (try simp (disch := omega) only [wr_id2])
    refine step_i (fun g => ?_) (fun g => ?_)
    · rw [if_neg (fun q => by omega)]
    · rw [if_pos ⟨trivial, by omega⟩]
      congr 2
      omega
theorem s85l {d : Nat} (h : 2 ≤ d) {σ : HP} {b : Int} {L : LB} (hb : blr σ b L) (hw : wf0 L) {x v : Nat} (hx : x < 32) (hv : v < 2) : ∀ (m i : Nat) (u : MV), i + m = shN L → rsP PG0 MX d 85 11 [vR b, vI x, vI v, vI (shN L : Nat), vI (cntB (begB L x v) i : Nat), vI i, u] [] σ = some (((rowN L x v : Nat) : Int), σ) := by
  obtain ⟨⟨m1, m2, m3, m4, m5, m6, m7, m8, m9⟩, f3, f4, f5, f6, fs, fw⟩ := id hb
  have hl := wf_len hw
  have hs := shN_le L
  intro m
  induction m with
  | zero =>
    intro i u hi
    have hs1 : 1 ≤ shN L := by
      cases hlp : lpB L
      · rw [shN_nl hlp]; omega
      · rw [shN_lp hlp]
        unfold lpB at hlp
        rw [Bool.and_eq_true] at hlp
        exact of_decide_eq_true hlp.1
    have : i = shN L := by omega
    subst this
    have hc := cntB_le (begB L x v) (shN L)
    have b1 := btN_1 (wd L 0) x
    have b2 := btN_1 (wd L (shN L - 1)) x
    rw [sg_85_11]
    (try simp (disch := omega) only [wr_id2])
    repeat (first | refine step_t trivial ?_ | refine step_t (by omega) ?_ | refine step_f (by omega) ?_)
    refine step_c (s43 (by omega) hb hw) ?_
    try dsimp only
    rw [wr_b2i]
    unfold rowN
    cases lpB L
    · refine step_t (show b2i false = 0 by decide) ?_
      rw [sg_85_100]
      exact s85e false _ (by omega) _ _ _ _ _ _
    · refine step_f (show ¬ (b2i true = 0) by decide) ?_
      repeat (first | refine step_t trivial ?_ | refine step_t (by omega) ?_ | refine step_f (by omega) ?_)
      refine step_c (s64 (i := 0) (by omega) hb hw (by omega) hx) ?_
      try dsimp only
      (try simp (disch := omega) only [wr_id2])
      unfold bvB
      refine step_i (fun g => ?_) (fun g => ?_)
      · rw [decide_eq_false (show ¬ btN (wd L 0) x = v by omega)]
        rw [sg_85_100]
        exact s85e false _ (by omega) _ _ _ _ _ _
      · rw [decide_eq_true (show btN (wd L 0) x = v by omega)]
        have e : ((shN L : Nat) : Int) - 1 = ((shN L - 1 : Nat) : Int) := by omega
        rw [e]
        repeat (first | refine step_t trivial ?_ | refine step_t (by omega) ?_ | refine step_f (by omega) ?_)
        refine step_c (s64 (i := shN L - 1) (by omega) hb hw (by omega) hx) ?_
        try dsimp only
        (try simp (disch := omega) only [wr_id2])
        refine step_i (fun g2 => ?_) (fun g2 => ?_)
        · rw [decide_eq_false (show ¬ btN (wd L (shN L - 1)) x = v by omega)]
          rw [sg_85_100]
          exact s85e false _ (by omega) _ _ _ _ _ _
        · rw [decide_eq_true (show btN (wd L (shN L - 1)) x = v by omega)]
          exact s85e true _ (by omega) _ _ _ _ _ _
  | succ m ih =>
    intro i u hi
    have b1 := btN_1 (wd L i) x
    have b2 := btN_1 (wd L (i - 1)) x
    have hq := ih (i + 1) vU (by omega)
    have e9 : cntB (begB L x v) (i + 1) = cntB (begB L x v) i + (bif begB L x v i then 1 else 0) := rfl
    rw [e9] at hq
    have key : ∀ z : Bool, (decide (i = 0) || !(bvB L x v (i - 1))) = z → rsP PG0 MX d 85 40 [vR b, vI x, vI v, vI (shN L : Nat), vI (cntB (begB L x v) i : Nat), vI i, vU] [vI (b2i z)] σ = some (((rowN L x v : Nat) : Int), σ) := by
      intro z hz
      have e8 : begB L x v i = (z && bvB L x v i) := by unfold begB; rw [hz]
      rw [e8] at hq
      rw [sg_85_40, wr_b2i]
      cases z
      · refine step_t (show b2i false = 0 by decide) ?_
        exact hq
      · refine step_f (show ¬ (b2i true = 0) by decide) ?_
        repeat (first | refine step_t trivial ?_ | refine step_t (by omega) ?_ | refine step_f (by omega) ?_)
        refine step_c (s64 (by omega) hb hw (by omega) hx) ?_
        try dsimp only
        (try simp (disch := omega) only [wr_id2])
        rw [Bool.true_and] at hq
        have hbv : bvB L x v i = decide (btN (wd L i) x = v) := rfl
        refine step_i (fun g => ?_) (fun g => ?_)
        · rw [hbv, decide_eq_false (show ¬ btN (wd L i) x = v by omega)] at hq
          exact hq
        · rw [hbv, decide_eq_true (show btN (wd L i) x = v by omega)] at hq
          exact hq
    rw [sg_85_11]
    (try simp (disch := omega) only [wr_id2])
    repeat (first | refine step_t trivial ?_ | refine step_t (by omega) ?_ | refine step_f (by omega) ?_)
    refine step_i (fun g => ?_) (fun g => ?_)
    · rw [sg_85_35]
      exact key true (by rw [decide_eq_true (show i = 0 by omega)]; rfl)
    · have e : ((i : Nat) : Int) - 1 = ((i - 1 : Nat) : Int) := by omega
      rw [e]
      repeat (first | refine step_t trivial ?_ | refine step_t (by omega) ?_ | refine step_f (by omega) ?_)
      refine step_c (s64 (i := i - 1) (by omega) hb hw (by omega) hx) ?_
      try dsimp only
      (try simp (disch := omega) only [wr_id2])
      refine step_i (fun g2 => ?_) (fun g2 => ?_)
      · exact key false (by rw [decide_eq_false (show ¬ i = 0 by omega)]; unfold bvB; rw [decide_eq_true (show btN (wd L (i - 1)) x = v by omega)]; rfl)
      · rw [sg_85_35]
        exact key true (by unfold bvB; rw [decide_eq_false (show ¬ btN (wd L (i - 1)) x = v by omega)]; simp)
theorem s85 {d : Nat} (h : 3 ≤ d) {σ : HP} {b : Int} {L : LB} (hb : blr σ b L) (hw : wf0 L) {x v : Nat} (hx : x < 32) (hv : v < 2) : clR PG0 MX d 85 [vR b, vI x, vI v] σ = some (((rowN L x v : Nat) : Int), σ) := by
  obtain ⟨d, rfl⟩ := ob1 (show 1 ≤ d by omega)
  obtain ⟨⟨m1, m2, m3, m4, m5, m6, m7, m8, m9⟩, f3, f4, f5, f6, fs, fw⟩ := id hb
  rw [ce_85, sg_85_0]
  repeat (first | refine step_t trivial ?_ | refine step_t (by omega) ?_ | refine step_f (by omega) ?_)
  refine step_c (s42 (by omega) hb hw) ?_
  try dsimp only
  exact s85l (d := d) (by omega) hb hw hx hv (shN L) 0 _ (by omega)
