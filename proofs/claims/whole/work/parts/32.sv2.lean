-- @after 30 31
/-- isRolled -/
def rolF (L : LB) (x k : Nat) : Nat → Nat → Bool
  | 0, _ => true
  | m + 1, i => if btN (wd L i) x = btN (wd L ((i + k) % (lT L).length)) 0 then rolF L x k m (i + 1) else false
theorem btN_2 (w k : Nat) : btN w k < 2 := Nat.mod_lt _ (by omega)
theorem md_next {i k n : Nat} (hn : 0 < n) : (i + 1 + k) % n = if (i + k) % n + 1 < n then (i + k) % n + 1 else 0 := by
  have h1 := Nat.div_add_mod (i + k) n
  have h2 := Nat.mod_lt (i + k) hn
  generalize (i + k) % n = r at h1 h2 ⊢
  generalize (i + k) / n = q at h1
  have e : i + 1 + k = n * q + (r + 1) := by omega
  rw [e, Nat.mul_add_mod]
  by_cases z : r + 1 < n
  · rw [if_pos z, Nat.mod_eq_of_lt z]
  · have : r + 1 = n := by omega
    rw [if_neg z, this, Nat.mod_self]
theorem s63l {d : Nat} (h : 1 ≤ d) {σ : HP} {b : Int} {L : LB} (hb : blr σ b L) (hw : wf0 L) {x k : Nat} (hx : x < 32) : ∀ (m i : Nat) (u : MV), i + m = (lT L).length → rsP PG0 MX d 63 5 [vR b, vI x, u, vI (((i + k) % (lT L).length : Nat) : Int), vI i] [] σ = some (b2i (rolF L x k m i), σ) := by
  obtain ⟨⟨m1, m2, m3, m4, m5, m6, m7, m8, m9⟩, f3, f4, f5, f6, fs, fw⟩ := id hb
  have hl := wf_len hw
  intro m
  induction m with
  | zero =>
    intro i u hi
    rw [sg_63_5]
    (try simp (disch := omega) only [f6, wr_id2])
    repeat (first | refine step_t trivial ?_ | refine step_t (by omega) ?_ | refine step_f (by omega) ?_)
    rfl
  | succ m ih =>
    intro i u hi
    have hn : 0 < (lT L).length := by omega
    have hm := Nat.mod_lt (i + k) hn
    rw [sg_63_5]
    (try simp (disch := omega) only [f6, wr_id2])
    repeat (first | refine step_t trivial ?_ | refine step_t (by omega) ?_ | refine step_f (by omega) ?_)
    refine step_c (s64 (by omega) hb hw (by omega) hx) ?_
    try dsimp only
    (try simp (disch := omega) only [wr_id2])
    repeat (first | refine step_t trivial ?_ | refine step_t (by omega) ?_ | refine step_f (by omega) ?_)
    refine step_c (s64 (k := 0) (by omega) hb hw (by omega) (by decide)) ?_
    try dsimp only
    have b1 := btN_2 (wd L i) x
    have b2 := btN_2 (wd L ((i + k) % (lT L).length)) 0
    (try simp (disch := omega) only [f6, wr_id2])
    unfold rolF
    refine step_i (fun g => ?_) (fun g => ?_)
    · rw [if_pos (show btN (wd L i) x = btN (wd L ((i + k) % (lT L).length)) 0 by omega)]
      have hq := ih (i + 1) vU (by omega)
      rw [md_next hn] at hq
      repeat (first | refine step_t trivial ?_ | refine step_t (by omega) ?_ | refine step_f (by omega) ?_)
      refine step_i (fun g2 => ?_) (fun g2 => ?_)
      · rw [if_pos (by omega)] at hq
        exact hq
      · rw [if_neg (by omega)] at hq
        exact hq
    · rw [if_neg (show ¬ btN (wd L i) x = btN (wd L ((i + k) % (lT L).length)) 0 by omega)]; rfl
theorem s63 {d : Nat} (h : 2 ≤ d) {σ : HP} {b : Int} {L : LB} (hb : blr σ b L) (hw : wf0 L) {x k : Nat} (hx : x < 32) (hk : k < (lT L).length) : clR PG0 MX d 63 [vR b, vI x, vI k] σ = some (b2i (rolF L x k (lT L).length 0), σ) := by
  obtain ⟨d, rfl⟩ := ob1 (show 1 ≤ d by omega)
  rw [ce_63, sg_63_0]
  have e := s63l (d := d) (by omega) hb hw (k := k) hx (lT L).length 0 (vI k) (by omega)
  rw [Nat.zero_add, Nat.mod_eq_of_lt hk] at e
  exact e
/-- trackShift -/
def shfF (L : LB) (x : Nat) : Nat → Nat → Int
  | 0, _ => -1
  | m + 1, k => if rolF L x k (lT L).length 0 = true then k else shfF L x m (k + 1)
def shfN (L : LB) (x : Nat) : Int := if lpB L = true then shfF L x (lT L).length 0 else -1
theorem s62l {d : Nat} (h : 2 ≤ d) {σ : HP} {b : Int} {L : LB} (hb : blr σ b L) (hw : wf0 L) {x : Nat} (hx : x < 32) : ∀ (m k : Nat), k + m = (lT L).length → rsP PG0 MX d 62 11 [vR b, vI x, vI k] [] σ = some (shfF L x m k, σ) := by
  obtain ⟨⟨m1, m2, m3, m4, m5, m6, m7, m8, m9⟩, f3, f4, f5, f6, fs, fw⟩ := id hb
  have hl := wf_len hw
  intro m
  induction m with
  | zero =>
    intro k hk
    rw [sg_62_11]
    (try simp (disch := omega) only [f6, wr_id2])
    repeat (first | refine step_t trivial ?_ | refine step_t (by omega) ?_ | refine step_f (by omega) ?_)
    rfl
  | succ m ih =>
    intro k hk
    rw [sg_62_11]
    (try simp (disch := omega) only [f6, wr_id2])
    repeat (first | refine step_t trivial ?_ | refine step_t (by omega) ?_ | refine step_f (by omega) ?_)
    refine step_c (s63 (by omega) hb hw hx (by omega)) ?_
    try dsimp only
    rw [wr_b2i]
    unfold shfF
    cases rolF L x k (lT L).length 0
    · refine step_t (show b2i false = 0 by decide) ?_
      rw [if_neg (by decide)]
      exact ih (k + 1) (by omega)
    · refine step_f (show ¬ (b2i true = 0) by decide) ?_
      rw [if_pos rfl]
theorem s62 {d : Nat} (h : 3 ≤ d) {σ : HP} {b : Int} {L : LB} (hb : blr σ b L) (hw : wf0 L) {x : Nat} (hx : x < 32) : clR PG0 MX d 62 [vR b, vI x] σ = some (shfN L x, σ) := by
  obtain ⟨d, rfl⟩ := ob1 (show 1 ≤ d by omega)
  obtain ⟨⟨m1, m2, m3, m4, m5, m6, m7, m8, m9⟩, f3, f4, f5, f6, fs, fw⟩ := id hb
  rw [ce_62, sg_62_0]
  repeat (first | refine step_t trivial ?_ | refine step_t (by omega) ?_ | refine step_f (by omega) ?_)
  refine step_c (s43 (by omega) hb hw) ?_
  try dsimp only
  rw [wr_b2i]
  unfold shfN
  cases lpB L
  · refine step_f (show ¬ (b2i false ≠ 0) by decide) ?_
    rfl
  · refine step_t (show b2i true ≠ 0 by decide) ?_
    exact s62l (by omega) hb hw hx _ 0 (by omega)
theorem shfF_b (L : LB) (x : Nat) : ∀ m k, shfF L x m k = -1 ∨ (0 ≤ shfF L x m k ∧ shfF L x m k < k + m) := by
  intro m
  induction m with
  | zero => intro k; exact Or.inl rfl
  | succ m ih =>
    intro k
    unfold shfF
    by_cases z : rolF L x k (lT L).length 0 = true
    · rw [if_pos z]; right; omega
    · rw [if_neg z]
      rcases ih (k + 1) with e | e
      · exact Or.inl e
      · right; omega
theorem shfN_b (L : LB) (x : Nat) : shfN L x = -1 ∨ (0 ≤ shfN L x ∧ shfN L x < (lT L).length) := by
  unfold shfN
  by_cases z : lpB L = true
  · rw [if_pos z]
    have := shfF_b L x (lT L).length 0
    omega
  · rw [if_neg z]; exact Or.inl rfl
/-- isOneTrack -/
def oneF (L : LB) : Nat → Nat → Bool
  | 0, _ => true
  | m + 1, x => if shfN L x = -1 then false else oneF L m (x + 1)
def oneB (L : LB) : Bool := lpB L && oneF L (lN0 L) 0
theorem s61l {d : Nat} (h : 3 ≤ d) {σ : HP} {b : Int} {L : LB} (hb : blr σ b L) (hw : wf0 L) : ∀ (m x : Nat), x + m = lN0 L → rsP PG0 MX d 61 11 [vR b, vI x] [] σ = some (b2i (oneF L m x), σ) := by
  obtain ⟨⟨m1, m2, m3, m4, m5, m6, m7, m8, m9⟩, f3, f4, f5, f6, fs, fw⟩ := id hb
  have h9 := hw.1
  have hl := wf_len hw
  intro m
  induction m with
  | zero =>
    intro x hx
    rw [sg_61_11]
    (try simp (disch := omega) only [f3, wr_id2])
    repeat (first | refine step_t trivial ?_ | refine step_t (by omega) ?_ | refine step_f (by omega) ?_)
    rfl
  | succ m ih =>
    intro x hx
    have hs := shfN_b L x
    rw [sg_61_11]
    (try simp (disch := omega) only [f3, wr_id2])
    repeat (first | refine step_t trivial ?_ | refine step_t (by omega) ?_ | refine step_f (by omega) ?_)
    refine step_c (s62 (by omega) hb hw (by omega)) ?_
    try dsimp only
    (try simp (disch := omega) only [wr_id2])
    unfold oneF
    refine step_i (fun g => ?_) (fun g => ?_)
    · rw [if_neg (show ¬ shfN L x = -1 by omega)]
      exact ih (x + 1) (by omega)
    · rw [if_pos (show shfN L x = -1 by omega)]; rfl
theorem s61 {d : Nat} (h : 4 ≤ d) {σ : HP} {b : Int} {L : LB} (hb : blr σ b L) (hw : wf0 L) : clR PG0 MX d 61 [vR b] σ = some (b2i (oneB L), σ) := by
  obtain ⟨d, rfl⟩ := ob1 (show 1 ≤ d by omega)
  obtain ⟨⟨m1, m2, m3, m4, m5, m6, m7, m8, m9⟩, f3, f4, f5, f6, fs, fw⟩ := id hb
  rw [ce_61, sg_61_0]
  repeat (first | refine step_t trivial ?_ | refine step_t (by omega) ?_ | refine step_f (by omega) ?_)
  refine step_c (s43 (by omega) hb hw) ?_
  try dsimp only
  rw [wr_b2i]
  unfold oneB
  cases lpB L
  · refine step_f (show ¬ (b2i false ≠ 0) by decide) ?_
    rfl
  · refine step_t (show b2i true ≠ 0 by decide) ?_
    exact s61l (by omega) hb hw _ 0 (by omega)
/-- bitByTurns -/
def ahB (L : LB) (x o : Nat) : Bool := decide (tuN L x < tuN L o) || (decide (tuN L o = tuN L x) && decide (o < x))
theorem tuN_le {L : LB} (hw : wf0 L) (x : Nat) : tuN L x ≤ 256 := Nat.le_trans (cntB_le _ _) (wf_len hw)
def ordF (L : LB) (k : Int) : Nat → Nat → Int
  | 0, _ => -1
  | m + 1, x => if ((cntB (ahB L x) (lN0 L) : Nat) : Int) = k then x else ordF L k m (x + 1)
theorem s74i {d : Nat} (h : 1 ≤ d) {σ : HP} {b : Int} {L : LB} (hb : blr σ b L) (hw : wf0 L) {k : Int} {x : Nat} (hx : x < 8) : ∀ (m o : Nat) (u : MV), o + m = lN0 L → rsP PG0 MX d 74 22 [vR b, vI k, vI x, vI (tuN L x : Nat), vI (cntB (ahB L x) o : Nat), vI o, u] [] σ = rsP PG0 MX d 74 22 [vR b, vI k, vI x, vI (tuN L x : Nat), vI (cntB (ahB L x) (lN0 L) : Nat), vI (lN0 L : Nat), vU] [] σ := by
  obtain ⟨⟨m1, m2, m3, m4, m5, m6, m7, m8, m9⟩, f3, f4, f5, f6, fs, fw⟩ := id hb
  have h9 := hw.1
  have hl := wf_len hw
  have t1 := tuN_le hw x
  intro m
  induction m with
  | zero =>
    intro o u ho
    have : o = lN0 L := by omega
    subst this
    rw [sg_74_22, sg_74_22]
  | succ m ih =>
    intro o u ho
    have t2 := tuN_le hw o
    rw [sg_74_22]
    (try simp (disch := omega) only [f3, wr_id2])
    repeat (first | refine step_t trivial ?_ | refine step_t (by omega) ?_ | refine step_f (by omega) ?_)
    refine step_c (s72 (by omega) hb hw (by omega)) ?_
    try dsimp only
    (try simp (disch := omega) only [wr_id2])
    have hq := ih (o + 1) vU (by omega)
    have e : cntB (ahB L x) (o + 1) = cntB (ahB L x) o + (bif ahB L x o then 1 else 0) := rfl
    rw [e] at hq
    unfold ahB at hq
    refine step_i (fun g => ?_) (fun g => ?_)
    · rw [decide_eq_true (show tuN L x < tuN L o by omega)] at hq
      exact hq
    · rw [decide_eq_false (show ¬ tuN L x < tuN L o by omega)] at hq
      refine step_i (fun g2 => ?_) (fun g2 => ?_)
      · rw [decide_eq_false (show ¬ tuN L o = tuN L x by omega)] at hq
        exact hq
      · rw [decide_eq_true (show tuN L o = tuN L x by omega)] at hq
        refine step_i (fun g3 => ?_) (fun g3 => ?_)
        · rw [decide_eq_false (show ¬ o < x by omega)] at hq
          exact hq
        · rw [decide_eq_true (show o < x by omega)] at hq
          exact hq
theorem s74l {d : Nat} (h : 1 ≤ d) {σ : HP} {b : Int} {L : LB} (hb : blr σ b L) (hw : wf0 L) {k : Int} (hk : i32 k) : ∀ (m x : Nat) (u3 u4 u5 u6 : MV), x + m = lN0 L → rsP PG0 MX d 74 2 [vR b, vI k, vI x, u3, u4, u5, u6] [] σ = some (ordF L k m x, σ) := by
  obtain ⟨⟨m1, m2, m3, m4, m5, m6, m7, m8, m9⟩, f3, f4, f5, f6, fs, fw⟩ := id hb
  have h9 := hw.1
  have hl := wf_len hw
  have hk1 := hk.1
  have hk2 := hk.2
  intro m
  induction m with
  | zero =>
    intro x u3 u4 u5 u6 hx
    rw [sg_74_2]
    (try simp (disch := omega) only [f3, wr_id2])
    repeat (first | refine step_t trivial ?_ | refine step_t (by omega) ?_ | refine step_f (by omega) ?_)
    rfl
  | succ m ih =>
    intro x u3 u4 u5 u6 hx
    rw [sg_74_2]
    (try simp (disch := omega) only [f3, wr_id2])
    repeat (first | refine step_t trivial ?_ | refine step_t (by omega) ?_ | refine step_f (by omega) ?_)
    refine step_c (s72 (by omega) hb hw (by omega)) ?_
    try dsimp only
    refine Eq.trans (s74i (d := d) h hb hw (k := k) (x := x) (by omega) (lN0 L) 0 vU (by omega)) ?_
    have ha := cntB_le (ahB L x) (lN0 L)
    rw [sg_74_22]
    (try simp (disch := omega) only [f3, wr_id2])
    repeat (first | refine step_t trivial ?_ | refine step_t (by omega) ?_ | refine step_f (by omega) ?_)
    unfold ordF
    refine step_i (fun g => ?_) (fun g => ?_)
    · rw [if_neg (show ¬ ((cntB (ahB L x) (lN0 L) : Nat) : Int) = k by omega)]
      exact ih (x + 1) _ _ _ _ (by omega)
    · rw [if_pos (show ((cntB (ahB L x) (lN0 L) : Nat) : Int) = k by omega)]
theorem s74 {d : Nat} (h : 2 ≤ d) {σ : HP} {b : Int} {L : LB} (hb : blr σ b L) (hw : wf0 L) {k : Int} (hk : i32 k) : clR PG0 MX d 74 [vR b, vI k] σ = some (ordF L k (lN0 L) 0, σ) := by
  obtain ⟨d, rfl⟩ := ob1 (show 1 ≤ d by omega)
  rw [ce_74, sg_74_0]
  exact s74l (by omega) hb hw hk _ 0 _ _ _ _ (by omega)
/-- unevenness -/
def mxT (L : LB) : Nat → Nat
  | 0 => 0
  | n + 1 => max (mxT L n) (tuN L n)
def mnT (L : LB) : Nat → Nat
  | 0 => 256
  | n + 1 => min (mnT L n) (tuN L n)
theorem mxT_le {L : LB} (hw : wf0 L) : ∀ n, mxT L n ≤ 256 := by
  intro n
  induction n with
  | zero => exact Nat.zero_le _
  | succ n ih => have := tuN_le hw n; show max _ _ ≤ _; omega
theorem mnT_le {L : LB} : ∀ n, mnT L n ≤ 256 := by
  intro n
  induction n with
  | zero => exact Nat.le_refl _
  | succ n ih => show min _ _ ≤ _; omega
theorem s76l {d : Nat} (h : 6 ≤ d) {σ : HP} {b : Int} {L : LB} (hb : blr σ b L) (hw : wf0 L) : ∀ (m x : Nat) (u : MV), x + m = lN0 L → rsP PG0 MX d 76 8 [vR b, vI (mxT L x : Nat), vI (mnT L x : Nat), vI x, u] [] σ = some (((mxT L (lN0 L) : Nat) : Int) - (mnT L (lN0 L) : Nat), σ) := by
  obtain ⟨⟨m1, m2, m3, m4, m5, m6, m7, m8, m9⟩, f3, f4, f5, f6, fs, fw⟩ := id hb
  have h9 := hw.1
  have hl := wf_len hw
  intro m
  induction m with
  | zero =>
    intro x u hx
    have : x = lN0 L := by omega
    subst this
    rw [sg_76_8]
    (try simp (disch := omega) only [f3, wr_id2])
    repeat (first | refine step_t trivial ?_ | refine step_t (by omega) ?_ | refine step_f (by omega) ?_)
    rfl
  | succ m ih =>
    intro x u hx
    have t1 := tuN_le hw x
    have t2 := mxT_le hw x
    have t3 := mnT_le (L := L) x
    rw [sg_76_8]
    (try simp (disch := omega) only [f3, wr_id2])
    repeat (first | refine step_t trivial ?_ | refine step_t (by omega) ?_ | refine step_f (by omega) ?_)
    refine step_c (s72 (by omega) hb hw (by omega)) ?_
    try dsimp only
    refine step_c (p_max (by omega) σ _ _) ?_
    try dsimp only
    refine step_c (p_min (by omega) σ _ _) ?_
    try dsimp only
    (try simp (disch := omega) only [wr_id2])
    have e1 : (if ((mxT L x : Nat) : Int) < (tuN L x : Nat) then ((tuN L x : Nat) : Int) else (mxT L x : Nat)) = ((mxT L (x + 1) : Nat) : Int) := by
      show _ = ((max (mxT L x) (tuN L x) : Nat) : Int)
      by_cases z : mxT L x < tuN L x
      · rw [if_pos (by omega)]; omega
      · rw [if_neg (by omega)]; omega
    have e2 : (if ((tuN L x : Nat) : Int) < (mnT L x : Nat) then ((tuN L x : Nat) : Int) else (mnT L x : Nat)) = ((mnT L (x + 1) : Nat) : Int) := by
      show _ = ((min (mnT L x) (tuN L x) : Nat) : Int)
      by_cases z : tuN L x < mnT L x
      · rw [if_pos (by omega)]; omega
      · rw [if_neg (by omega)]; omega
    rw [e1, e2]
    exact ih (x + 1) _ (by omega)
theorem s76 {d : Nat} (h : 7 ≤ d) {σ : HP} {b : Int} {L : LB} (hb : blr σ b L) (hw : wf0 L) : clR PG0 MX d 76 [vR b] σ = some (((mxT L (lN0 L) : Nat) : Int) - (mnT L (lN0 L) : Nat), σ) := by
  obtain ⟨d, rfl⟩ := ob1 (show 1 ≤ d by omega)
  rw [ce_76, sg_76_0]
  exact s76l (d := d) (by omega) hb hw (lN0 L) 0 _ (by omega)
