/-- gapOf -/
theorem lsr_a {a x : Int} (hx : 1 ≤ x) : lsr a x = if a = -1 then x else if a ≤ x then a else x := by
  unfold lsr
  by_cases z : a = -1
  · rw [if_pos z, if_pos z]
  · rw [if_neg z, if_neg z, if_neg (by omega)]
    by_cases z2 : a ≤ x
    · rw [if_pos z2]; omega
    · rw [if_neg z2]; omega
theorem s229l {d : Nat} (h : 2 ≤ d) {σ σ1 : HP} {n : Nat} {L : LB} (hy : Lay σ) (hn : n < 3) (hr : slR σ n L) (hw : wf0 L) {x : Nat} (hx : x < 1000) (k1 : clR PG0 MX d 203 [vR 101, vI n] σ = some (0, σ1)) (hy1 : Lay σ1) (hr1 : slR σ1 n L) (q4 : σ1 101 18 = b2i (lpB L)) : ∀ (m i : Nat) (a f l : Int), i + m = (lT L).length → -1 ≤ a ∧ a ≤ 600 → -1 ≤ f ∧ f < i → (f ≤ l ∧ l < i) → (l = -1 → f = -1) → (f = -1 → l = -1) → rsP PG0 MX d 229 11 [vR 101, vI n, vI x, vI a, vI l, vI f, vI i] [] σ = some (gapE L (gapF L x m i (a, f, l)), σ1) := by
  have y1 := hy.1; have k101 := y101_m1 hy
  have y1b := hy1.1; have k101b := y101_m1 hy1
  have hl := wf_len hw
  have h9 := hw.1
  have e204 := s204 (d := d) (by omega) hy hn hr
  have e204b := s204 (d := d) (by omega) hy1 hn hr1
  intro m
  induction m with
  | zero =>
    intro i a f l hi ha hf hl2 hlf hfl
    rw [sg_229_11]
    repeat (first | refine step_t (by with_reducible exact True.intro) ?_ | refine step_t (by omega) ?_ | refine step_f (by omega) ?_)
    refine step_c (e204) ?_
    try dsimp only
    (try simp (disch := omega) only [wr_id2])
    repeat (first | refine step_t (by with_reducible exact True.intro) ?_ | refine step_t (by omega) ?_ | refine step_f (by omega) ?_)
    refine step_c (k1) ?_
    try dsimp only
    (try simp (disch := omega) only [q4, wr_b2i, wr_id2])
    refine step_t (by omega) ?_
    show _ = some (gapE L (a, f, l), σ1)
    unfold gapE
    dsimp only
    cases hb : lpB L with
    | false =>
      refine step_t (show b2i false = 0 by decide) ?_
      by_cases z : f = -1
      · rw [if_pos z]
      · rw [if_neg z, if_neg (by decide)]
    | true =>
      refine step_f (show ¬ (b2i true = 0) by decide) ?_
      by_cases z : f = -1
      · rw [if_pos z]
        refine step_t (by omega) ?_
        rfl
      · rw [if_neg z, if_pos rfl, lsr_a (by omega)]
        refine step_f (by omega) ?_
        repeat (first | refine step_t (by with_reducible exact True.intro) ?_ | refine step_t (by omega) ?_ | refine step_f (by omega) ?_)
        refine step_c (e204b) ?_
        try dsimp only
        (try simp (disch := omega) only [wr_id2])
        refine step_i (fun g => ?_) (fun g => ?_)
        · rw [if_pos g]
        · rw [if_neg g]
          refine step_i (fun g2 => ?_) (fun g2 => ?_)
          · rw [if_pos g2]
          · rw [if_neg g2]
  | succ m ih =>
    intro i a f l hi ha hf hl2 hlf hfl
    obtain ⟨y, hy2⟩ := st_get (L := L) (i := i) (by omega)
    have y3 := st_lt hw hy2
    have e205 := s205 (d := d) (by omega) hy hn hr hw hy2
    rw [sg_229_11]
    repeat (first | refine step_t (by with_reducible exact True.intro) ?_ | refine step_t (by omega) ?_ | refine step_f (by omega) ?_)
    refine step_c (e204) ?_
    try dsimp only
    (try simp (disch := omega) only [wr_id2])
    repeat (first | refine step_t (by with_reducible exact True.intro) ?_ | refine step_t (by omega) ?_ | refine step_f (by omega) ?_)
    refine step_c (e205) ?_
    try dsimp only
    (try simp (disch := omega) only [wr_id2])
    unfold gapF
    rw [hy2]
    by_cases z : y = x
    · rw [if_pos (by rw [z])]
      refine step_t (by omega) ?_
      by_cases zf : f = -1
      · rw [if_pos zf]
        have zl := hfl zf
        refine step_t (by omega) ?_
        rw [sg_229_63, sg_229_64]
        (try simp (disch := omega) only [wr_id2])
        refine step_f (by omega) ?_
        exact ih (i + 1) a i i (by omega) ha (by omega) (by omega) (by omega) (by omega)
      · rw [if_neg zf, lsr_a (by omega)]
        refine step_f (by omega) ?_
        refine step_i (fun g => ?_) (fun g => ?_)
        · rw [if_pos g, sg_229_55, sg_229_64]
          (try simp (disch := omega) only [wr_id2])
          refine step_t (by omega) ?_
          exact ih (i + 1) (i - l) f i (by omega) (by omega) (by omega) (by omega) (by omega) (by omega)
        · rw [if_neg g]
          refine step_i (fun g2 => ?_) (fun g2 => ?_)
          · rw [if_pos g2, sg_229_63, sg_229_64]
            (try simp (disch := omega) only [wr_id2])
            refine step_t (by omega) ?_
            exact ih (i + 1) a f i (by omega) ha (by omega) (by omega) (by omega) (by omega)
          · rw [if_neg g2, sg_229_55, sg_229_64]
            (try simp (disch := omega) only [wr_id2])
            refine step_t (by omega) ?_
            exact ih (i + 1) (i - l) f i (by omega) (by omega) (by omega) (by omega) (by omega) (by omega)
    · rw [if_neg (fun q => z (Option.some.inj q))]
      refine step_f (by omega) ?_
      exact ih (i + 1) a f l (by omega) ha (by omega) (by omega) hlf hfl
theorem s229 {d : Nat} (h : 4 ≤ d) {σ : HP} {n : Nat} {L : LB} (hy : Lay σ) (hn : n < 3) (hr : slR σ n L) (hw : wf0 L) {x : Nat} (hx : x < 1000) : ∃ σ', clR PG0 MX d 229 [vR 101, vI n, vI x] σ = some (gapN L x, σ') ∧ FQ σ σ' ∧ slR σ' n L := by
  obtain ⟨d, rfl⟩ := ob1 (show 1 ≤ d by omega)
  obtain ⟨σ1, k1, k2, k3, k4⟩ := s203 (d := d) (by omega) hy hn hr hw
  refine ⟨σ1, ?_, k2, k3⟩
  rw [ce_229, sg_229_0]
  exact s229l (d := d) (by omega) hy hn hr hw hx k1 k2.2 k3 k4.2.2.2 (lT L).length 0 (-1) (-1) (-1) (by omega) (by omega) (by omega) (by omega) (by omega) (by omega)
theorem gapF_b {L : LB} {x : Nat} : ∀ (m i : Nat) (a f l : Int), i + m = (lT L).length → -1 ≤ a ∧ a ≤ i → -1 ≤ f ∧ f < i → (f ≤ l ∧ l < i) → ∃ a' f' l', gapF L x m i (a, f, l) = (a', f', l') ∧ -1 ≤ a' ∧ a' ≤ (lT L).length ∧ -1 ≤ f' ∧ f' < (lT L).length + 1 ∧ f' ≤ l' ∧ l' < (lT L).length + 1 := by
  intro m
  induction m with
  | zero => intro i a f l hi ha hf hl; exact ⟨a, f, l, rfl, by omega, by omega, by omega, by omega, by omega, by omega⟩
  | succ m ih =>
    intro i a f l hi ha hf hl
    unfold gapF
    by_cases z : (lT L)[i]? = some x
    · rw [if_pos z]
      by_cases z2 : f = -1
      · rw [if_pos z2]; exact ih (i + 1) a i i (by omega) (by omega) (by omega) (by omega)
      · rw [if_neg z2]
        refine ih (i + 1) _ f i (by omega) ?_ (by omega) (by omega)
        rw [lsr_a (by omega)]
        by_cases g : a = -1
        · rw [if_pos g]; omega
        · rw [if_neg g]
          by_cases g2 : a ≤ i - l
          · rw [if_pos g2]; omega
          · rw [if_neg g2]; omega
    · rw [if_neg z]; exact ih (i + 1) a f l (by omega) (by omega) (by omega) (by omega)
theorem gapN_b {L : LB} (hw : wf0 L) (x : Nat) : -1 ≤ gapN L x ∧ gapN L x ≤ 600 := by
  have hl := wf_len hw
  obtain ⟨a, f, l, e, h1, h2, h3, h4, h5, h6⟩ := gapF_b (L := L) (x := x) (lT L).length 0 (-1) (-1) (-1) (by omega) (by omega) (by omega) (by omega)
  unfold gapN gapE
  rw [e]
  dsimp only
  by_cases z : f = -1
  · rw [if_pos z]; omega
  · rw [if_neg z]
    by_cases z2 : lpB L = true
    · rw [if_pos z2]
      exact lsr_b (by omega) (by omega)
    · rw [if_neg z2]; omega
theorem s228l {d : Nat} (h : 4 ≤ d) {σ0 : HP} {n : Nat} {L : LB} (hn : n < 3) (hw : wf0 L) : ∀ (m x : Nat) (a : Int) (σ : HP) (u2 u5 : MV), x + m = lN0 L → -1 ≤ a ∧ a ≤ 600 → FQ σ0 σ → slR σ n L → ∃ σ', rsP PG0 MX d 228 42 [vR 101, vI n, u2, vI a, vI x, u5] [] σ = some (lgpF L m x a, σ') ∧ FQ σ0 σ' := by
  have h9 := hw.1
  intro m
  induction m with
  | zero =>
    intro x a σ u2 u5 hx ha hF hr
    have hy := hF.2
    have y1 := hy.1; have k101 := y101_m1 hy
    refine ⟨σ, ?_, hF⟩
    rw [sg_228_42]
    repeat (first | refine step_t (by with_reducible exact True.intro) ?_ | refine step_t (by omega) ?_ | refine step_f (by omega) ?_)
    refine step_c (s207 (by omega) hy hn hr) ?_
    try dsimp only
    (try simp (disch := omega) only [wr_id2])
    repeat (first | refine step_t (by with_reducible exact True.intro) ?_ | refine step_t (by omega) ?_ | refine step_f (by omega) ?_)
    rfl
  | succ m ih =>
    intro x a σ u2 u5 hx ha hF hr
    have hy := hF.2
    have y1 := hy.1; have k101 := y101_m1 hy
    obtain ⟨σ1, k1, k2, k3⟩ := s229 (d := d) (by omega) hy hn hr hw (x := x) (by omega)
    have gb := gapN_b hw x
    obtain ⟨σ', j1, j2⟩ := ih (x + 1) (lsr a (gapN L x)) σ1 vU vU (by omega) (lsr_b ha gb) (hF.tr k2) k3
    refine ⟨σ', ?_, j2⟩
    rw [sg_228_42]
    repeat (first | refine step_t (by with_reducible exact True.intro) ?_ | refine step_t (by omega) ?_ | refine step_f (by omega) ?_)
    refine step_c (s207 (by omega) hy hn hr) ?_
    try dsimp only
    (try simp (disch := omega) only [wr_id2])
    repeat (first | refine step_t (by with_reducible exact True.intro) ?_ | refine step_t (by omega) ?_ | refine step_f (by omega) ?_)
    refine step_c (k1) ?_
    try dsimp only
    (try simp (disch := omega) only [wr_id2])
    show _ = some (lgpF L m (x + 1) (lsr a (gapN L x)), σ')
    rw [← j1]
    unfold lsr
    by_cases z : gapN L x = -1
    · refine step_t (by omega) ?_
      by_cases z2 : a = -1
      · rw [if_pos z2, z, z2]
        rfl
      · rw [if_neg z2, if_pos z]
        rfl
    · refine step_f (by omega) ?_
      by_cases z2 : a = -1
      · refine step_t (by omega) ?_
        rw [if_pos z2]
        rfl
      · refine step_f (by omega) ?_
        rw [if_neg z2, if_neg z]
        by_cases z3 : a ≤ gapN L x
        · refine step_t (by omega) ?_
          rw [Int.min_eq_left z3]
          rfl
        · refine step_f (by omega) ?_
          rw [Int.min_eq_right (by omega)]
          rfl
theorem m228 (S : AS) {s x : Int} (hs : i32 s) (hx : i32 x) : mOp 228 [vI s, vI x] S (qA S s (gapQ x), S) := by
  intro d σ h hy ht hm
  obtain ⟨d, rfl⟩ := ob1 (show 1 ≤ d by omega)
  have y1 := hy.1; have k101 := y101_m1 hy; have p102 := y101_0 hy; have k102 := y102_m1 hy; have l102 := y102_m2 hy; have p107 := y101_15 hy; have k107 := y107_m1 hy; have l107 := y107_m2 hy; have p108 := y101_16 hy; have k108 := y108_m1 hy; have l108 := y108_m2 hy
  unfold qA
  cases e : gl S s with
  | none =>
    refine ⟨σ, ?_, (FM.rf hy).fl, hm⟩
    rw [ce_228, sg_228_0]
    repeat (first | refine step_t (by with_reducible exact True.intro) ?_ | refine step_t (by omega) ?_ | refine step_f (by omega) ?_)
    refine step_c (s180n (by omega) hy hm hs e) ?_
    try dsimp only
    (try simp (disch := omega) only [wr_id2])
    repeat (first | refine step_t (by with_reducible exact True.intro) ?_ | refine step_t (by omega) ?_ | refine step_f (by omega) ?_)
    rfl
  | some L =>
    have e180 := s180s (d := d) (by omega) hy hm hs e
    obtain ⟨n, rfl, hn, hr, hw, en⟩ := hm.got e
    have hl := wf_len hw.1
    have h9 := hw.1.1
    have h1N := hw.2.1
    have hp8 := pow8 hw.1.1
    have hp0 := Nat.two_pow_pos (lN0 L)
    have hsh := shN_le L
    dsimp only
    have x1 := hx.1
    have x2 := hx.2
    have e224 := s224s (d := d) (by omega) hy hm hs hx e
    unfold gapQ
    by_cases z : x = -1
    · rw [if_pos z]
      obtain ⟨σ1, k1, k2⟩ := s228l (d := d) (by omega) hn hw.1 (lN0 L) 0 (-1) σ (vI x) vU (by omega) ⟨by omega, by omega⟩ (FQ.rf hy) hr
      refine ⟨σ1, ?_, k2.ml, k2.mr hm⟩
      rw [ce_228, sg_228_0]
      repeat (first | refine step_t (by with_reducible exact True.intro) ?_ | refine step_t (by omega) ?_ | refine step_f (by omega) ?_)
      refine step_c (e180) ?_
      try dsimp only
      (try simp (disch := omega) only [wr_id2])
      repeat (first | refine step_t (by with_reducible exact True.intro) ?_ | refine step_t (by omega) ?_ | refine step_f (by omega) ?_)
      rw [sg_228_25]
      (try simp (disch := omega) only [wr_id2])
      repeat (first | refine step_t (by with_reducible exact True.intro) ?_ | refine step_t (by omega) ?_ | refine step_f (by omega) ?_)
      exact k1
    · rw [if_neg z]
      by_cases z2 : 0 ≤ x ∧ x < lN0 L
      · rw [if_pos z2]
        rw [decide_eq_true z2] at e224
        obtain ⟨σ1, k1, k2, k3⟩ := s229 (d := d) (by omega) hy hn hr hw.1 (x := x.toNat) (by omega)
        rw [show ((x.toNat : Nat) : Int) = x by omega] at k1
        refine ⟨σ1, ?_, k2.ml, k2.mr hm⟩
        rw [ce_228, sg_228_0]
        repeat (first | refine step_t (by with_reducible exact True.intro) ?_ | refine step_t (by omega) ?_ | refine step_f (by omega) ?_)
        refine step_c (e180) ?_
        try dsimp only
        (try simp (disch := omega) only [wr_id2])
        repeat (first | refine step_t (by with_reducible exact True.intro) ?_ | refine step_t (by omega) ?_ | refine step_f (by omega) ?_)
        refine step_c (e224) ?_
        try dsimp only
        rw [wr_b2i]
        refine step_t (show b2i true ≠ 0 by decide) ?_
        rw [sg_228_25]
        (try simp (disch := omega) only [wr_id2])
        repeat (first | refine step_t (by with_reducible exact True.intro) ?_ | refine step_t (by omega) ?_ | refine step_f (by omega) ?_)
        refine step_c (k1) ?_
        try dsimp only
      · rw [if_neg z2]
        rw [decide_eq_false z2] at e224
        refine ⟨σ, ?_, (FM.rf hy).fl, hm⟩
        rw [ce_228, sg_228_0]
        repeat (first | refine step_t (by with_reducible exact True.intro) ?_ | refine step_t (by omega) ?_ | refine step_f (by omega) ?_)
        refine step_c (e180) ?_
        try dsimp only
        (try simp (disch := omega) only [wr_id2])
        repeat (first | refine step_t (by with_reducible exact True.intro) ?_ | refine step_t (by omega) ?_ | refine step_f (by omega) ?_)
        refine step_c (e224) ?_
        try dsimp only
        rw [wr_b2i]
        refine step_f (show ¬ (b2i false ≠ 0) by decide) ?_
        rfl
/-- isV -/
theorem s231 {d : Nat} (h : 2 ≤ d) {σ : HP} {L : LB} (hy : Lay σ) (hq : wdR σ L) (hw : wf0 L) {i x v : Nat} (hi : i ≤ (lT L).length) (hx : x < 32) (hv : v < 2) : clR PG0 MX d 231 [vR 101, vI i, vI x, vI v] σ = some (b2i (bvB L x v i), σ) := by
  obtain ⟨d, rfl⟩ := ob1 (show 1 ≤ d by omega)
  have y1 := hy.1; have k101 := y101_m1 hy; have p107 := y101_15 hy; have k107 := y107_m1 hy; have l107 := y107_m2 hy
  have hl := wf_len hw
  have w1 := wd_256 hw i
  have e1 := hq.1 i hi
  have b2 := btN_2 (wd L i) x
  have e216 := s216 (d := d) (by omega) σ (x := wd L i) (k := x) (by omega) hx
  rw [ce_231, sg_231_0]
  (try simp (disch := omega) only [p107, e1, wr_id2])
  repeat (first | refine step_t (by with_reducible exact True.intro) ?_ | refine step_t (by omega) ?_ | refine step_f (by omega) ?_)
  refine step_c (e216) ?_
  try dsimp only
  unfold bvB
  by_cases z : v = 1
  · refine step_f (by omega) ?_
    rw [sg_231_20, wr_b2i, wr_1]
    by_cases q : btN (wd L i) x = 1
    · rw [decide_eq_true q, decide_eq_true (by omega)]
      refine step_f (show ¬ (b2i true ≠ 1) by decide) ?_
      rfl
    · rw [decide_eq_false q, decide_eq_false (by omega)]
      refine step_t (show b2i false ≠ 1 by decide) ?_
      rfl
  · refine step_t (by omega) ?_
    rw [sg_231_20, wr_b2i, wr_0]
    by_cases q : btN (wd L i) x = 1
    · rw [decide_eq_true q, decide_eq_false (by omega)]
      refine step_t (show b2i true ≠ 0 by decide) ?_
      rfl
    · rw [decide_eq_false q, decide_eq_true (by omega)]
      refine step_f (show ¬ (b2i false ≠ 0) by decide) ?_
      rfl
/-- run -/
theorem rnP_co {q r : Nat → Bool} : ∀ m i j t, (∀ k, k < m → q (i + k) = r (j + k)) → rnP q m i t = rnP r m j t := by
  intro m
  induction m with
  | zero => intro i j t h; rfl
  | succ m ih =>
    intro i j t h
    have h0 := h 0 (by omega)
    rw [Nat.add_zero, Nat.add_zero] at h0
    show rnP q m (i + 1) _ = rnP r m (j + 1) _
    rw [h0]
    exact ih _ _ _ (fun k hk => by
      have := h (k + 1) (by omega)
      rw [show i + (k + 1) = i + 1 + k by omega, show j + (k + 1) = j + 1 + k by omega] at this
      exact this)
theorem rnP_ad {q : Nat → Bool} (b : Nat) : ∀ m i t, rnP q (m + b) i t = rnP q b (i + m) (rnP q m i t) := by
  intro m
  induction m with
  | zero => intro i t; rw [Nat.zero_add]; rfl
  | succ m ih =>
    intro i t
    rw [show m + 1 + b = (m + b) + 1 by omega]
    show rnP q (m + b) (i + 1) _ = rnP q b (i + (m + 1)) (rnP q m (i + 1) _)
    rw [ih, show i + 1 + m = i + (m + 1) by omega]
theorem s230l {d : Nat} (h : 6 ≤ d) {σ : HP} {L : LB} (hy : Lay σ) (hq : wdR σ L) (hw : wf0 L) {x v R : Nat} (hx : x < 32) (hv : v < 2) (hR : R = if lpB L = true then 2 * shN L else shN L) (hs0 : 0 < shN L) : ∀ (m i : Nat) (t : Nat × Nat) (u : MV), i + m = R → t.1 ≤ 100000 - m → t.2 ≤ 100000 → rsP PG0 MX d 230 36 [vR 101, u, vI x, vI v, vI (min t.2 (shN L) : Nat), vI (t.1 : Nat), vI i] [] σ = some (((min (rnP (fun i => bvB L x v (i % shN L)) m i t).2 (shN L) : Nat) : Int), σ) := by
  have y1 := hy.1; have k101 := y101_m1 hy
  have hl := wf_len hw
  have hs := shN_le L
  obtain ⟨q1, q2, q3, q4⟩ := id hq
  have hR2 : R ≤ 2 * shN L := by
    rw [hR]
    by_cases z : lpB L = true
    · rw [if_pos z]; omega
    · rw [if_neg z]; omega
  have key : ∀ (i : Nat) (a r : Int) (u : MV), rsP PG0 MX d 230 36 [vR 101, u, vI x, vI v, vI a, vI r, vI i] [] σ = rsP PG0 MX d 230 58 [vR 101, vU, vI x, vI v, vI a, vI r, vI i] [vI R, vI i] σ := by
    intro i a r u
    rw [sg_230_36]
    (try simp (disch := omega) only [q3, q4, wr_b2i, wr_id2])
    refine step_t (by omega) ?_
    cases hb : lpB L with
    | false =>
      rw [hb, if_neg (by decide)] at hR
      refine step_t (show b2i false = 0 by decide) ?_
      repeat (first | refine step_t (by with_reducible exact True.intro) ?_ | refine step_t (by omega) ?_ | refine step_f (by omega) ?_)
      rw [hR]
    | true =>
      rw [hb, if_pos rfl] at hR
      refine step_f (show ¬ (b2i true = 0) by decide) ?_
      repeat (first | refine step_t (by with_reducible exact True.intro) ?_ | refine step_t (by omega) ?_ | refine step_f (by omega) ?_)
      rw [hR]
      rfl
  intro m
  induction m with
  | zero =>
    intro i t u hi h1 h2
    rw [key, sg_230_58]
    (try simp (disch := omega) only [wr_id2])
    refine step_t (by omega) ?_
    rfl
  | succ m ih =>
    intro i t u hi h1 h2
    have hmod := Nat.mod_lt i hs0
    have er : i_rem (i : Int) (shN L : Nat) = ((i % shN L : Nat) : Int) := i_rem_n (by omega) (by omega) (by omega)
    have e231 := s231 (d := d) (by omega) hy hq hw (i := i % shN L) (x := x) (v := v) (by omega) hx hv
    have kb : ∀ r : Nat, r ≤ 100000 - m → rsP PG0 MX d 230 85 [vR 101, vU, vI x, vI v, vI (min t.2 (shN L) : Nat), vI (t.1 : Nat), vI i] [vI r] σ = some (((min (rnP (fun i => bvB L x v (i % shN L)) m (i + 1) (r, max t.2 r)).2 (shN L) : Nat) : Int), σ) := by
      intro r hr
      rw [sg_230_85]
      (try simp (disch := omega) only [q3, wr_id2])
      repeat (first | refine step_t (by with_reducible exact True.intro) ?_ | refine step_t (by omega) ?_ | refine step_f (by omega) ?_)
      refine step_c (p_min (by omega) σ _ _) ?_
      try dsimp only
      refine step_c (p_max (by omega) σ _ _) ?_
      try dsimp only
      have e1 : (if ((shN L : Nat) : Int) < (r : Int) then ((shN L : Nat) : Int) else (r : Int)) = ((min r (shN L) : Nat) : Int) := by
        by_cases z : shN L < r
        · rw [if_pos (by omega), Nat.min_eq_right (by omega)]
        · rw [if_neg (by omega), Nat.min_eq_left (by omega)]
      (try simp (disch := omega) only [e1, wr_id2])
      have e2 : (if ((min t.2 (shN L) : Nat) : Int) < ((min r (shN L) : Nat) : Int) then ((min r (shN L) : Nat) : Int) else ((min t.2 (shN L) : Nat) : Int)) = ((min (max t.2 r) (shN L) : Nat) : Int) := by
        by_cases z : min t.2 (shN L) < min r (shN L)
        · rw [if_pos (by omega)]; omega
        · rw [if_neg (by omega)]; omega
      rw [e2]
      exact ih (i + 1) (r, max t.2 r) _ (by omega) hr (by show max t.2 r ≤ 100000; omega)
    rw [key, sg_230_58]
    (try simp (disch := omega) only [q3, er, wr_id2])
    refine step_f (by omega) ?_
    repeat (first | refine step_t (by with_reducible exact True.intro) ?_ | refine step_t (by omega) ?_ | refine step_f (by omega) ?_)
    refine step_c (e231) ?_
    try dsimp only
    rw [wr_b2i]
    show _ = some (((min (rnP (fun i => bvB L x v (i % shN L)) m (i + 1) (bif bvB L x v (i % shN L) then t.1 + 1 else 0, max t.2 (bif bvB L x v (i % shN L) then t.1 + 1 else 0))).2 (shN L) : Nat) : Int), σ)
    cases hb : bvB L x v (i % shN L) with
    | false =>
      refine step_t (show b2i false = 0 by decide) ?_
      exact kb 0 (by omega)
    | true =>
      refine step_f (show ¬ (b2i true = 0) by decide) ?_
      exact kb (t.1 + 1) (by omega)
theorem shN_pos (L : LB) : 0 < shN L := by
  cases hb : lpB L with
  | true =>
    rw [shN_lp hb]
    unfold lpB at hb
    rw [Bool.and_eq_true] at hb
    exact of_decide_eq_true hb.1
  | false => rw [shN_nl hb]; omega
theorem run_eq (L : LB) (x v : Nat) : min (rnP (fun i => bvB L x v (i % shN L)) (if lpB L = true then 2 * shN L else shN L) 0 (0, 0)).2 (shN L) = rnN L x v := by
  have h0 := shN_pos L
  have e1 : ∀ t, rnP (fun i => bvB L x v (i % shN L)) (shN L) 0 t = rnP (bvB L x v) (shN L) 0 t := fun t => rnP_co _ _ _ _ (fun k hk => by
    rw [Nat.zero_add, Nat.mod_eq_of_lt hk])
  have e2 : ∀ t, rnP (fun i => bvB L x v (i % shN L)) (shN L) (0 + shN L) t = rnP (bvB L x v) (shN L) 0 t := fun t => rnP_co _ _ _ _ (fun k hk => by
    rw [Nat.zero_add, Nat.zero_add, Nat.add_mod_left, Nat.mod_eq_of_lt hk])
  unfold rnN
  by_cases z : lpB L = true
  · rw [if_pos z, if_pos z, Nat.two_mul, rnP_ad, e1, e2]
  · rw [if_neg z, if_neg z, e1]
theorem m230 (S : AS) {s x v : Int} (hs : i32 s) (hx : i32 x) (hv : i32 v) : mOp 230 [vI s, vI x, vI v] S (qA S s (bvQ rnN x v), S) := by
  intro d σ h hy ht hm
  obtain ⟨d, rfl⟩ := ob1 (show 1 ≤ d by omega)
  have y1 := hy.1; have k101 := y101_m1 hy; have p102 := y101_0 hy; have k102 := y102_m1 hy; have l102 := y102_m2 hy; have p107 := y101_15 hy; have k107 := y107_m1 hy; have l107 := y107_m2 hy; have p108 := y101_16 hy; have k108 := y108_m1 hy; have l108 := y108_m2 hy
  unfold qA
  cases e : gl S s with
  | none =>
    refine ⟨σ, ?_, (FM.rf hy).fl, hm⟩
    rw [ce_230, sg_230_0]
    repeat (first | refine step_t (by with_reducible exact True.intro) ?_ | refine step_t (by omega) ?_ | refine step_f (by omega) ?_)
    refine step_c (s224n (by omega) hy hm hs hx e) ?_
    try dsimp only
    (try simp (disch := omega) only [wr_id2])
    repeat (first | refine step_t (by with_reducible exact True.intro) ?_ | refine step_t (by omega) ?_ | refine step_f (by omega) ?_)
    rfl
  | some L =>
    have e180 := s224s (d := d) (by omega) hy hm hs hx e
    obtain ⟨n, rfl, hn, hr, hw, en⟩ := hm.got e
    have hl := wf_len hw.1
    have h9 := hw.1.1
    have h1N := hw.2.1
    have hp8 := pow8 hw.1.1
    have hp0 := Nat.two_pow_pos (lN0 L)
    have hsh := shN_le L
    dsimp only
    have e1 := s179 (d := d) (by omega) σ hv (y := 0) (z := 1) ⟨by decide, by decide⟩ ⟨by decide, by decide⟩
    have wv := hv.wr
    unfold bvQ
    by_cases z : 0 ≤ x ∧ x < lN0 L
    · rw [decide_eq_true z] at e180
      rw [if_pos z]
      by_cases z2 : 0 ≤ v ∧ v ≤ 1
      · rw [decide_eq_true z2] at e1
        rw [if_pos z2]
        obtain ⟨σ1, k1, k2, k3, k4⟩ := s203 (d := d) (by omega) hy hn hr hw.1
        refine ⟨σ1, ?_, k2.ml, k2.mr hm⟩
        have q := s230l (d := d) (by omega) k2.2 k4 hw.1 (x := x.toNat) (v := v.toNat) (by omega) (by omega) rfl (shN_pos L) _ 0 (0, 0) (vI n) (Nat.zero_add _) (by omega) (by omega)
        rw [run_eq, show ((x.toNat : Nat) : Int) = x by omega, show ((v.toNat : Nat) : Int) = v by omega] at q
        rw [ce_230, sg_230_0]
        repeat (first | refine step_t (by with_reducible exact True.intro) ?_ | refine step_t (by omega) ?_ | refine step_f (by omega) ?_)
        refine step_c (e180) ?_
        try dsimp only
        rw [wr_b2i]
        refine step_f (show ¬ (b2i true = 0) by decide) ?_
        (try simp (disch := omega) only [wv, wr_id2])
        refine step_c (e1) ?_
        try dsimp only
        rw [wr_b2i]
        refine step_t (show b2i true ≠ 0 by decide) ?_
        repeat (first | refine step_t (by with_reducible exact True.intro) ?_ | refine step_t (by omega) ?_ | refine step_f (by omega) ?_)
        refine step_c (k1) ?_
        try dsimp only
        rw [Nat.zero_min] at q
        exact q
      · rw [decide_eq_false z2] at e1
        rw [if_neg z2]
        refine ⟨σ, ?_, (FM.rf hy).fl, hm⟩
        rw [ce_230, sg_230_0]
        repeat (first | refine step_t (by with_reducible exact True.intro) ?_ | refine step_t (by omega) ?_ | refine step_f (by omega) ?_)
        refine step_c (e180) ?_
        try dsimp only
        rw [wr_b2i]
        refine step_f (show ¬ (b2i true = 0) by decide) ?_
        (try simp (disch := omega) only [wv, wr_id2])
        refine step_c (e1) ?_
        try dsimp only
        rw [wr_b2i]
        refine step_f (show ¬ (b2i false ≠ 0) by decide) ?_
        rfl
    · rw [decide_eq_false z] at e180
      rw [if_neg z]
      refine ⟨σ, ?_, (FM.rf hy).fl, hm⟩
      rw [ce_230, sg_230_0]
      repeat (first | refine step_t (by with_reducible exact True.intro) ?_ | refine step_t (by omega) ?_ | refine step_f (by omega) ?_)
      refine step_c (e180) ?_
      try dsimp only
      rw [wr_b2i]
      refine step_t (show b2i false = 0 by decide) ?_
      rfl
/-- parts -/
def agB (L : LB) (x v i : Nat) : Bool := if i = 0 then lpB L && bvB L x v (shN L - 1) else bvB L x v (i - 1)
def bgB (L : LB) (x v i : Nat) : Bool := bvB L x v i && !(agB L x v i)
theorem s232l {d : Nat} (h : 6 ≤ d) {σ : HP} {L : LB} (hy : Lay σ) (hq : wdR σ L) (hw : wf0 L) {x v : Nat} (hx : x < 32) (hv : v < 2) : ∀ (m i : Nat) (u1 u7 : MV), i + m = shN L → rsP PG0 MX d 232 36 [vR 101, u1, vI x, vI v, vI (cntB (bgB L x v) i : Nat), vI (cntB (bvB L x v) i : Nat), vI i, u7] [] σ = some (((if 0 < cntB (bvB L x v) (shN L) ∧ cntB (bgB L x v) (shN L) = 0 then 1 else cntB (bgB L x v) (shN L) : Nat) : Int), σ) := by
  have y1 := hy.1; have k101 := y101_m1 hy
  have hl := wf_len hw
  have hs := shN_le L
  have hs0 := shN_pos L
  obtain ⟨q1, q2, q3, q4⟩ := id hq
  intro m
  induction m with
  | zero =>
    intro i u1 u7 hi
    have c1 := cntB_le (bgB L x v) (shN L)
    have c2 := cntB_le (bvB L x v) (shN L)
    have ei : i = shN L := by omega
    rw [ei, sg_232_36]
    (try simp (disch := omega) only [q3, wr_id2])
    refine step_t (by omega) ?_
    refine step_t (Int.le_refl _) ?_
    refine step_i (fun g => ?_) (fun g => ?_)
    · rw [if_neg (by omega)]
    · refine step_i (fun g2 => ?_) (fun g2 => ?_)
      · rw [if_neg (by omega)]
      · rw [if_pos (by omega)]
        rfl
  | succ m ih =>
    intro i u1 u7 hi
    have c1 := cntB_le (bgB L x v) i
    have c2 := cntB_le (bvB L x v) i
    have e231 := s231 (d := d) (by omega) hy hq hw (i := i) (x := x) (v := v) (by omega) hx hv
    have q := ih (i + 1) vU vU (by omega)
    rw [cntB_s, cntB_s] at q
    have kc : ∀ (y : Nat) (u4 u7 : MV), y = (bif bgB L x v i then 1 else 0) → rsP PG0 MX d 232 115 [vR 101, vU, vI x, vI v, u4, vI (cntB (bvB L x v) i : Nat), vI i, u7] [vI y, vI (cntB (bgB L x v) i : Nat)] σ = some (((if 0 < cntB (bvB L x v) (shN L) ∧ cntB (bgB L x v) (shN L) = 0 then 1 else cntB (bgB L x v) (shN L) : Nat) : Int), σ) := by
      intro y u4 u7 hy2
      rw [← hy2] at q
      rw [sg_232_115]
      repeat (first | refine step_t (by with_reducible exact True.intro) ?_ | refine step_t (by omega) ?_ | refine step_f (by omega) ?_)
      refine step_c (e231) ?_
      try dsimp only
      rw [wr_b2i]
      cases hb : bvB L x v i with
      | false =>
        rw [hb] at q
        refine step_t (show b2i false = 0 by decide) ?_
        exact q
      | true =>
        rw [hb] at q
        refine step_f (show ¬ (b2i true = 0) by decide) ?_
        exact q
    have kb : rsP PG0 MX d 232 90 [vR 101, vU, vI x, vI v, vI (cntB (bgB L x v) i : Nat), vI (cntB (bvB L x v) i : Nat), vI i, vU] [vI (b2i (agB L x v i))] σ = some (((if 0 < cntB (bvB L x v) (shN L) ∧ cntB (bgB L x v) (shN L) = 0 then 1 else cntB (bgB L x v) (shN L) : Nat) : Int), σ) := by
      rw [sg_232_90]
      repeat (first | refine step_t (by with_reducible exact True.intro) ?_ | refine step_t (by omega) ?_ | refine step_f (by omega) ?_)
      refine step_c (e231) ?_
      try dsimp only
      rw [wr_b2i, wr_b2i]
      cases hb : bvB L x v i with
      | false =>
        refine step_t (show b2i false = 0 by decide) ?_
        rw [sg_232_114]
        exact kc 0 _ _ (by unfold bgB; rw [hb]; rfl)
      | true =>
        refine step_f (show ¬ (b2i true = 0) by decide) ?_
        cases ha : agB L x v i with
        | false =>
          refine step_f (show ¬ (b2i false ≠ 0) by decide) ?_
          exact kc 1 _ _ (by unfold bgB; rw [hb, ha]; rfl)
        | true =>
          refine step_t (show b2i true ≠ 0 by decide) ?_
          rw [sg_232_114]
          exact kc 0 _ _ (by unfold bgB; rw [hb, ha]; rfl)
    rw [sg_232_36]
    (try simp (disch := omega) only [q3, wr_id2])
    repeat (first | refine step_t (by with_reducible exact True.intro) ?_ | refine step_t (by omega) ?_ | refine step_f (by omega) ?_)
    by_cases z : i = 0
    · have ea : agB L x v i = (lpB L && bvB L x v (shN L - 1)) := by unfold agB; rw [if_pos z]
      rw [ea] at kb
      refine step_f (by omega) ?_
      (try simp (disch := omega) only [q4, wr_b2i, wr_id2])
      repeat (first | refine step_t (by with_reducible exact True.intro) ?_ | refine step_t (by omega) ?_ | refine step_f (by omega) ?_)
      cases hb : lpB L with
      | false =>
        rw [hb] at kb
        refine step_t (show b2i false = 0 by decide) ?_
        rw [sg_232_76]
        exact kb
      | true =>
        rw [hb, Bool.true_and] at kb
        refine step_f (show ¬ (b2i true = 0) by decide) ?_
        have e2 := s231 (d := d) (by omega) hy hq hw (i := shN L - 1) (x := x) (v := v) (by omega) hx hv
        rw [show ((shN L - 1 : Nat) : Int) = ((shN L : Nat) : Int) - 1 by omega] at e2
        repeat (first | refine step_t (by with_reducible exact True.intro) ?_ | refine step_t (by omega) ?_ | refine step_f (by omega) ?_)
        refine step_c (e2) ?_
        try dsimp only
        rw [wr_b2i]
        cases hb2 : bvB L x v (shN L - 1) with
        | false =>
          rw [hb2] at kb
          refine step_t (show b2i false = 0 by decide) ?_
          rw [sg_232_76]
          exact kb
        | true =>
          rw [hb2] at kb
          refine step_f (show ¬ (b2i true = 0) by decide) ?_
          exact kb
    · have ea : agB L x v i = bvB L x v (i - 1) := by unfold agB; rw [if_neg z]
      rw [ea] at kb
      have e2 := s231 (d := d) (by omega) hy hq hw (i := i - 1) (x := x) (v := v) (by omega) hx hv
      rw [show ((i - 1 : Nat) : Int) = (i : Int) - 1 by omega] at e2
      refine step_t (by omega) ?_
      repeat (first | refine step_t (by with_reducible exact True.intro) ?_ | refine step_t (by omega) ?_ | refine step_f (by omega) ?_)
      refine step_c (e2) ?_
      try dsimp only
      exact kb
theorem parts_eq (L : LB) (x v : Nat) : (if 0 < cntB (bvB L x v) (shN L) ∧ cntB (bgB L x v) (shN L) = 0 then 1 else cntB (bgB L x v) (shN L)) = rowN L x v := by
  have h0 := shN_pos L
  have eb : ∀ i, 0 < i → bgB L x v i = begB L x v i := fun i hi => by
    unfold bgB begB agB
    rw [if_neg (by omega), decide_eq_false (by omega), Bool.false_or, Bool.and_comm]
  have e0 : begB L x v 0 = bvB L x v 0 := by
    unfold begB
    rw [decide_eq_true rfl]
    rfl
  have ec : ∀ n, cntB (bgB L x v) (n + 1) + (bif lpB L && bvB L x v 0 && bvB L x v (shN L - 1) then 1 else 0) = cntB (begB L x v) (n + 1) := by
    intro n
    induction n with
    | zero =>
      rw [cntB_s, cntB_s, e0]
      show 0 + (bif bgB L x v 0 then 1 else 0) + _ = 0 + _
      have : bgB L x v 0 = (bvB L x v 0 && !(lpB L && bvB L x v (shN L - 1))) := by unfold bgB agB; rw [if_pos rfl]
      rw [this]
      cases lpB L <;> cases bvB L x v 0 <;> cases bvB L x v (shN L - 1) <;> rfl
    | succ n ih =>
      rw [cntB_s, cntB_s (begB L x v), eb (n + 1) (by omega)]
      omega
  have hc := ec (shN L - 1)
  rw [show shN L - 1 + 1 = shN L by omega] at hc
  have hz : cntB (begB L x v) (shN L) = 0 → cntB (bvB L x v) (shN L) = 0 := by
    intro hz
    have hz := cntB_zero.mp hz
    refine cntB_zero.mpr ?_
    intro i
    induction i with
    | zero => intro hi; rw [← e0]; exact hz 0 hi
    | succ i ih =>
      intro hi
      have h1 := ih (by omega)
      have h2 := hz (i + 1) hi
      unfold begB at h2
      rw [decide_eq_false (by omega), show i + 1 - 1 = i by omega, h1] at h2
      exact h2
  unfold rowN
  cases hs : (lpB L && bvB L x v 0 && bvB L x v (shN L - 1)) with
  | true =>
    rw [hs] at hc
    simp only [cond_true] at hc
    have hv0 : 0 < cntB (bvB L x v) (shN L) := (cntB_pos (shN L)).mp ⟨0, h0, by
      cases q : bvB L x v 0 with
      | true => rfl
      | false => rw [q, Bool.and_false] at hs; cases hs⟩
    by_cases z : 1 < cntB (begB L x v) (shN L)
    · rw [if_neg (show ¬ (0 < cntB (bvB L x v) (shN L) ∧ cntB (bgB L x v) (shN L) = 0) by omega), if_pos (show true = true ∧ 1 < cntB (begB L x v) (shN L) from ⟨rfl, z⟩)]; omega
    · rw [if_pos (show 0 < cntB (bvB L x v) (shN L) ∧ cntB (bgB L x v) (shN L) = 0 by omega), if_neg (show ¬ (true = true ∧ 1 < cntB (begB L x v) (shN L)) from fun q => z q.2)]; omega
  | false =>
    rw [hs] at hc
    simp only [cond_false] at hc
    rw [if_neg (show ¬ (false = true ∧ 1 < cntB (begB L x v) (shN L)) from fun q => by have h := q.1; cases h)]
    by_cases z : cntB (begB L x v) (shN L) = 0
    · have := hz z
      rw [if_neg (show ¬ (0 < cntB (bvB L x v) (shN L) ∧ cntB (bgB L x v) (shN L) = 0) by omega)]; omega
    · rw [if_neg (show ¬ (0 < cntB (bvB L x v) (shN L) ∧ cntB (bgB L x v) (shN L) = 0) by omega)]; omega
theorem m232 (S : AS) {s x v : Int} (hs : i32 s) (hx : i32 x) (hv : i32 v) : mOp 232 [vI s, vI x, vI v] S (qA S s (bvQ rowN x v), S) := by
  intro d σ h hy ht hm
  obtain ⟨d, rfl⟩ := ob1 (show 1 ≤ d by omega)
  have y1 := hy.1; have k101 := y101_m1 hy; have p102 := y101_0 hy; have k102 := y102_m1 hy; have l102 := y102_m2 hy; have p107 := y101_15 hy; have k107 := y107_m1 hy; have l107 := y107_m2 hy; have p108 := y101_16 hy; have k108 := y108_m1 hy; have l108 := y108_m2 hy
  unfold qA
  cases e : gl S s with
  | none =>
    refine ⟨σ, ?_, (FM.rf hy).fl, hm⟩
    rw [ce_232, sg_232_0]
    repeat (first | refine step_t (by with_reducible exact True.intro) ?_ | refine step_t (by omega) ?_ | refine step_f (by omega) ?_)
    refine step_c (s224n (by omega) hy hm hs hx e) ?_
    try dsimp only
    (try simp (disch := omega) only [wr_id2])
    repeat (first | refine step_t (by with_reducible exact True.intro) ?_ | refine step_t (by omega) ?_ | refine step_f (by omega) ?_)
    rfl
  | some L =>
    have e180 := s224s (d := d) (by omega) hy hm hs hx e
    obtain ⟨n, rfl, hn, hr, hw, en⟩ := hm.got e
    have hl := wf_len hw.1
    have h9 := hw.1.1
    have h1N := hw.2.1
    have hp8 := pow8 hw.1.1
    have hp0 := Nat.two_pow_pos (lN0 L)
    have hsh := shN_le L
    dsimp only
    have e1 := s179 (d := d) (by omega) σ hv (y := 0) (z := 1) ⟨by decide, by decide⟩ ⟨by decide, by decide⟩
    have wv := hv.wr
    unfold bvQ
    by_cases z : 0 ≤ x ∧ x < lN0 L
    · rw [decide_eq_true z] at e180
      rw [if_pos z]
      by_cases z2 : 0 ≤ v ∧ v ≤ 1
      · rw [decide_eq_true z2] at e1
        rw [if_pos z2]
        obtain ⟨σ1, k1, k2, k3, k4⟩ := s203 (d := d) (by omega) hy hn hr hw.1
        refine ⟨σ1, ?_, k2.ml, k2.mr hm⟩
        have q := s232l (d := d) (by omega) k2.2 k4 hw.1 (x := x.toNat) (v := v.toNat) (by omega) (by omega) (shN L) 0 (vI n) vU (by omega)
        rw [parts_eq, show ((x.toNat : Nat) : Int) = x by omega, show ((v.toNat : Nat) : Int) = v by omega] at q
        rw [ce_232, sg_232_0]
        repeat (first | refine step_t (by with_reducible exact True.intro) ?_ | refine step_t (by omega) ?_ | refine step_f (by omega) ?_)
        refine step_c (e180) ?_
        try dsimp only
        rw [wr_b2i]
        refine step_f (show ¬ (b2i true = 0) by decide) ?_
        (try simp (disch := omega) only [wv, wr_id2])
        refine step_c (e1) ?_
        try dsimp only
        rw [wr_b2i]
        refine step_t (show b2i true ≠ 0 by decide) ?_
        repeat (first | refine step_t (by with_reducible exact True.intro) ?_ | refine step_t (by omega) ?_ | refine step_f (by omega) ?_)
        refine step_c (k1) ?_
        try dsimp only
        exact q
      · rw [decide_eq_false z2] at e1
        rw [if_neg z2]
        refine ⟨σ, ?_, (FM.rf hy).fl, hm⟩
        rw [ce_232, sg_232_0]
        repeat (first | refine step_t (by with_reducible exact True.intro) ?_ | refine step_t (by omega) ?_ | refine step_f (by omega) ?_)
        refine step_c (e180) ?_
        try dsimp only
        rw [wr_b2i]
        refine step_f (show ¬ (b2i true = 0) by decide) ?_
        (try simp (disch := omega) only [wv, wr_id2])
        refine step_c (e1) ?_
        try dsimp only
        rw [wr_b2i]
        refine step_f (show ¬ (b2i false ≠ 0) by decide) ?_
        rfl
    · rw [decide_eq_false z] at e180
      rw [if_neg z]
      refine ⟨σ, ?_, (FM.rf hy).fl, hm⟩
      rw [ce_232, sg_232_0]
      repeat (first | refine step_t (by with_reducible exact True.intro) ?_ | refine step_t (by omega) ?_ | refine step_f (by omega) ?_)
      refine step_c (e180) ?_
      try dsimp only
      rw [wr_b2i]
      refine step_t (show b2i false = 0 by decide) ?_
      rfl
/-- isSpread, spread -/
theorem s238i {d : Nat} (h : 7 ≤ d) {σ : HP} {L : LB} (hy : Lay σ) (hq : wdR σ L) (hw : wf0 L) {k a : Nat} (hk : k ≤ 8) (ha : a < shN L) : ∀ (m b : Nat), b + m = a → rsP PG0 MX d 238 12 [vR 101, vI k, vI a, vI b] [] σ = if allF (fun b => !(decide (k ≤ pbN L a b) && decide (pop (wd L a ^^^ wd L b) < k))) m b = true then rsP PG0 MX d 238 2 [vR 101, vI k, vI ((a + 1 : Nat) : Int), vI a] [] σ else some (0, σ) := by
  have y1 := hy.1; have k101 := y101_m1 hy; have p107 := y101_15 hy; have k107 := y107_m1 hy; have l107 := y107_m2 hy
  have hs := shN_le L
  have hl := wf_len hw
  obtain ⟨q1, q2, q3, q4⟩ := id hq
  intro m
  induction m with
  | zero =>
    intro b hi
    have : b = a := by omega
    subst this
    rw [sg_238_12]
    (try simp (disch := omega) only [wr_id2])
    repeat (first | refine step_t (by with_reducible exact True.intro) ?_ | refine step_t (by omega) ?_ | refine step_f (by omega) ?_)
    rfl
  | succ m ih =>
    intro b hi
    have w1 := wd_256 hw a
    have w2 := wd_256 hw b
    have w3 := xor_256 w1 w2
    have p8 := pop_le _ w3
    have e1 := q1 a (by omega)
    have e2 := q1 b (by omega)
    have e212 := s212 (d := d) (by omega) hy hq hw ha (j := b) (by omega)
    have pl := pbN_le L ha (j := b) (by omega)
    rw [sg_238_12]
    (try simp (disch := omega) only [wr_id2])
    repeat (first | refine step_t (by with_reducible exact True.intro) ?_ | refine step_t (by omega) ?_ | refine step_f (by omega) ?_)
    refine step_c (e212) ?_
    try dsimp only
    (try simp (disch := omega) only [wr_id2])
    unfold allF
    refine step_i (fun g => ?_) (fun g => ?_)
    · rw [if_pos (show (!(decide (k ≤ pbN L a b) && decide (pop (wd L a ^^^ wd L b) < k))) = true by rw [decide_eq_false (by omega)]; rfl)]
      exact ih (b + 1) (by omega)
    · (try simp (disch := omega) only [p107, e1, e2, i_xor_n (a := wd L a) (b := wd L b) (by omega) (by omega), wr_id2])
      repeat (first | refine step_t (by with_reducible exact True.intro) ?_ | refine step_t (by omega) ?_ | refine step_f (by omega) ?_)
      refine step_c (s209 (by omega) σ (x := wd L a ^^^ wd L b) (by omega)) ?_
      try dsimp only
      (try simp (disch := omega) only [wr_id2])
      refine step_i (fun g2 => ?_) (fun g2 => ?_)
      · rw [if_pos (show (!(decide (k ≤ pbN L a b) && decide (pop (wd L a ^^^ wd L b) < k))) = true by rw [decide_eq_false (show ¬ pop (wd L a ^^^ wd L b) < k by omega), Bool.and_false]; rfl)]
        exact ih (b + 1) (by omega)
      · rw [if_neg (show ¬ (!(decide (k ≤ pbN L a b) && decide (pop (wd L a ^^^ wd L b) < k))) = true by rw [decide_eq_true (show k ≤ pbN L a b by omega), decide_eq_true (show pop (wd L a ^^^ wd L b) < k by omega)]; decide), if_neg (by decide)]
theorem s238l {d : Nat} (h : 7 ≤ d) {σ : HP} {L : LB} (hy : Lay σ) (hq : wdR σ L) (hw : wf0 L) {k : Nat} (hk : k ≤ 8) : ∀ (m a : Nat) (u3 : MV), a + m = shN L → rsP PG0 MX d 238 2 [vR 101, vI k, vI a, u3] [] σ = some (b2i (allF (fun a => allF (fun b => !(decide (k ≤ pbN L a b) && decide (pop (wd L a ^^^ wd L b) < k))) a 0) m a), σ) := by
  have y1 := hy.1; have k101 := y101_m1 hy; have p107 := y101_15 hy; have k107 := y107_m1 hy; have l107 := y107_m2 hy
  have hs := shN_le L
  have hl := wf_len hw
  obtain ⟨q1, q2, q3, q4⟩ := id hq
  intro m
  induction m with
  | zero =>
    intro a u3 hi
    rw [sg_238_2]
    (try simp (disch := omega) only [q3, wr_id2])
    repeat (first | refine step_t (by with_reducible exact True.intro) ?_ | refine step_t (by omega) ?_ | refine step_f (by omega) ?_)
    rfl
  | succ m ih =>
    intro a u3 hi
    have e := s238i (d := d) h hy hq hw hk (a := a) (by omega) a 0 (by omega)
    rw [sg_238_2]
    (try simp (disch := omega) only [q3, wr_id2])
    repeat (first | refine step_t (by with_reducible exact True.intro) ?_ | refine step_t (by omega) ?_ | refine step_f (by omega) ?_)
    refine Eq.trans e ?_
    show _ = some (b2i (if allF (fun b => !(decide (k ≤ pbN L a b) && decide (pop (wd L a ^^^ wd L b) < k))) a 0 = true then _ else false), σ)
    by_cases z : allF (fun b => !(decide (k ≤ pbN L a b) && decide (pop (wd L a ^^^ wd L b) < k))) a 0 = true
    · rw [if_pos z, if_pos z]
      exact ih (a + 1) _ (by omega)
    · rw [if_neg z, if_neg z]
      rfl
theorem s238 {d : Nat} (h : 8 ≤ d) {σ : HP} {L : LB} (hy : Lay σ) (hq : wdR σ L) (hw : wf0 L) {k : Nat} (hk : k ≤ 8) : clR PG0 MX d 238 [vR 101, vI k] σ = some (b2i (spR L k), σ) := by
  obtain ⟨d, rfl⟩ := ob1 (show 1 ≤ d by omega)
  rw [ce_238, sg_238_0]
  exact s238l (d := d) (by omega) hy hq hw hk (shN L) 0 _ (by omega)
theorem s237l {d : Nat} (h : 8 ≤ d) {σ : HP} {L : LB} (hy : Lay σ) (hq : wdR σ L) (hw : wf0 L) (hc : spR L 1 = true) : ∀ (k : Nat) (u : MV), k + 1 ≤ 8 → rsP PG0 MX d 237 32 [vR 101, u, vI ((k + 1 : Nat) : Int)] [] σ = some (((spW (frO L (shN L) 0 (fun _ => 0)) (k + 1) : Nat) : Int), σ) := by
  have y1 := hy.1; have k101 := y101_m1 hy
  intro k
  induction k with
  | zero =>
    intro u hk
    have e := s238 (d := d) h hy hq hw (k := 1) (by omega)
    rw [hc] at e
    rw [sg_237_32]
    repeat (first | refine step_t (by with_reducible exact True.intro) ?_ | refine step_t (by omega) ?_ | refine step_f (by omega) ?_)
    refine step_c (e) ?_
    try dsimp only
    refine step_t (show wr (b2i true) ≠ 0 by decide) ?_
    rfl
  | succ k ih =>
    intro u hk
    have e := s238 (d := d) h hy hq hw (k := k + 1 + 1) (by omega)
    rw [← spd_eq (by omega)] at e
    rw [sg_237_32]
    repeat (first | refine step_t (by with_reducible exact True.intro) ?_ | refine step_t (by omega) ?_ | refine step_f (by omega) ?_)
    refine step_c (e) ?_
    try dsimp only
    rw [wr_b2i]
    unfold spW
    by_cases z : spH (frO L (shN L) 0 (fun _ => 0)) (k + 2) (k + 2) 0 = true
    · have z' : spH (frO L (shN L) 0 (fun _ => 0)) (k + 1 + 1) (k + 1 + 1) 0 = true := z
      rw [if_pos z, z']
      refine step_t (show b2i true ≠ 0 by decide) ?_
      rfl
    · have z' : spH (frO L (shN L) 0 (fun _ => 0)) (k + 1 + 1) (k + 1 + 1) 0 = false := by
        cases q : spH (frO L (shN L) 0 (fun _ => 0)) (k + 1 + 1) (k + 1 + 1) 0 with
        | false => rfl
        | true => exact absurd q z
      rw [if_neg z, z']
      refine step_f (show ¬ (b2i false ≠ 0) by decide) ?_
      have q := ih vU (by omega)
      rw [show ((k + 1 : Nat) : Int) = ((k + 1 + 1 : Nat) : Int) + (-1) by omega] at q
      exact q
theorem m237 (S : AS) {s : Int} (hs : i32 s) : mOp 237 [vI s] S (qA S s spdN, S) := by
  intro d σ h hy ht hm
  obtain ⟨d, rfl⟩ := ob1 (show 1 ≤ d by omega)
  have y1 := hy.1; have k101 := y101_m1 hy; have p102 := y101_0 hy; have k102 := y102_m1 hy; have l102 := y102_m2 hy; have p107 := y101_15 hy; have k107 := y107_m1 hy; have l107 := y107_m2 hy; have p108 := y101_16 hy; have k108 := y108_m1 hy; have l108 := y108_m2 hy
  unfold qA
  cases e : gl S s with
  | none =>
    refine ⟨σ, ?_, (FM.rf hy).fl, hm⟩
    rw [ce_237, sg_237_0]
    repeat (first | refine step_t (by with_reducible exact True.intro) ?_ | refine step_t (by omega) ?_ | refine step_f (by omega) ?_)
    refine step_c (s180n (by omega) hy hm hs e) ?_
    try dsimp only
    (try simp (disch := omega) only [wr_id2])
    repeat (first | refine step_t (by with_reducible exact True.intro) ?_ | refine step_t (by omega) ?_ | refine step_f (by omega) ?_)
    rfl
  | some L =>
    have e180 := s180s (d := d) (by omega) hy hm hs e
    obtain ⟨n, rfl, hn, hr, hw, en⟩ := hm.got e
    have hl := wf_len hw.1
    have h9 := hw.1.1
    have h1N := hw.2.1
    have hp8 := pow8 hw.1.1
    have hp0 := Nat.two_pow_pos (lN0 L)
    have hsh := shN_le L
    dsimp only
    obtain ⟨σ1, k1, k2, k3, k4⟩ := s203 (d := d) (by omega) hy hn hr hw.1
    have hy1 := k2.2
    have y1b := hy1.1; have k101b := y101_m1 hy1
    have e := s238 (d := d) (by omega) hy1 k4 hw.1 (k := 1) (by omega)
    refine ⟨σ1, ?_, k2.ml, k2.mr hm⟩
    rw [ce_237, sg_237_0]
    repeat (first | refine step_t (by with_reducible exact True.intro) ?_ | refine step_t (by omega) ?_ | refine step_f (by omega) ?_)
    refine step_c (e180) ?_
    try dsimp only
    (try simp (disch := omega) only [wr_id2])
    repeat (first | refine step_t (by with_reducible exact True.intro) ?_ | refine step_t (by omega) ?_ | refine step_f (by omega) ?_)
    refine step_c (k1) ?_
    try dsimp only
    repeat (first | refine step_t (by with_reducible exact True.intro) ?_ | refine step_t (by omega) ?_ | refine step_f (by omega) ?_)
    refine step_c (e) ?_
    try dsimp only
    rw [wr_b2i, spR_1 hw.1]
    unfold spdN
    cases hc : clnB L with
    | false =>
      rw [if_neg (by decide)]
      refine step_f (show ¬ (b2i false ≠ 0) by decide) ?_
      rfl
    | true =>
      rw [if_pos rfl]
      refine step_t (show b2i true ≠ 0 by decide) ?_
      repeat (first | refine step_t (by with_reducible exact True.intro) ?_ | refine step_t (by omega) ?_ | refine step_f (by omega) ?_)
      refine step_c (s207 (by omega) hy1 hn k3) ?_
      try dsimp only
      have q := s237l (d := d) (by omega) hy1 k4 hw.1 (by rw [spR_1 hw.1]; exact hc) (lN0 L - 1) (vI n) (by omega)
      rw [show lN0 L - 1 + 1 = lN0 L by omega] at q
      exact q
