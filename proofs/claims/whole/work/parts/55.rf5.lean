/-- isClean -/
theorem s202l {d : Nat} {σ : HP} {L : LB} (hy : Lay σ) (hq : wdR σ L) (hw : wf0 L) : ∀ (m w : Nat) (u : MV), w + m = 256 → rsP PG0 MX d 202 7 [vR 101, u, vI w] [] σ = some (b2i (allF (fun w => decide (cW L w ≤ 1)) m w), σ) := by
  have y1 := hy.1; have k101 := y101_m1 hy; have p108 := y101_16 hy; have k108 := y108_m1 hy; have l108 := y108_m2 hy
  have hs := shN_le L
  have hl := wf_len hw
  obtain ⟨q1, q2, q3, q4⟩ := hq
  intro m
  induction m with
  | zero =>
    intro w u hi
    rw [sg_202_7]
    (try simp (disch := omega) only [wr_id2])
    repeat (first | refine step_t (by with_reducible exact True.intro) ?_ | refine step_t (by omega) ?_ | refine step_f (by omega) ?_)
    rfl
  | succ m ih =>
    intro w u hi
    have e2 := q2 w (by omega)
    have e3 : cW L w ≤ shN L := cwN_le L w _
    rw [sg_202_7]
    (try simp (disch := omega) only [p108, e2, wr_id2])
    repeat (first | refine step_t (by with_reducible exact True.intro) ?_ | refine step_t (by omega) ?_ | refine step_f (by omega) ?_)
    unfold allF
    refine step_i (fun g => ?_) (fun g => ?_)
    · rw [if_pos (decide_eq_true (by omega))]
      exact ih (w + 1) _ (by omega)
    · rw [if_neg (show ¬ decide (cW L w ≤ 1) = true by rw [decide_eq_true_iff]; omega)]
      rfl
theorem s202 {d : Nat} (h : 4 ≤ d) {σ : HP} {n : Nat} {L : LB} (hy : Lay σ) (hn : n < 3) (hr : slR σ n L) (hw : wf0 L) : ∃ σ', clR PG0 MX d 202 [vR 101, vI n] σ = some (b2i (clnB L), σ') ∧ FQ σ σ' ∧ slR σ' n L ∧ wdR σ' L := by
  obtain ⟨d, rfl⟩ := ob1 (show 1 ≤ d by omega)
  have y1 := hy.1; have k101 := y101_m1 hy
  obtain ⟨σ1, k1, k2, k3, k4⟩ := s203 (d := d) (by omega) hy hn hr hw
  refine ⟨σ1, ?_, k2, k3, k4⟩
  have e : allF (fun w => decide (cW L w ≤ 1)) 256 0 = clnB L := by
    refine bool_eq ?_
    rw [allF_iff, cln_w hw]
    exact ⟨fun h w hw2 => of_decide_eq_true (h w (by omega) (by omega)), fun h j _ hj => decide_eq_true (h j (by omega))⟩
  rw [ce_202, sg_202_0, ← e]
  repeat (first | refine step_t (by with_reducible exact True.intro) ?_ | refine step_t (by omega) ?_ | refine step_f (by omega) ?_)
  refine step_c (k1) ?_
  try dsimp only
  exact s202l (d := d) k2.2 k4 hw 256 0 _ (by omega)
/-- isSnake -/
theorem s211i {d : Nat} (h : 7 ≤ d) {σ : HP} {L : LB} (hy : Lay σ) (hq : wdR σ L) (hw : wf0 L) {a : Nat} (ha : a < shN L) : ∀ (m b : Nat) (u : MV), b + m = a → rsP PG0 MX d 211 22 [vR 101, u, vI a, vI b] [] σ = if allF (fun b => !(decide (1 < pbN L a b) && decide (pop (wd L a ^^^ wd L b) < 2))) m b = true then rsP PG0 MX d 211 12 [vR 101, vU, vI ((a + 1 : Nat) : Int), vI a] [] σ else some (0, σ) := by
  have y1 := hy.1; have k101 := y101_m1 hy; have p107 := y101_15 hy; have k107 := y107_m1 hy; have l107 := y107_m2 hy
  have hs := shN_le L
  have hl := wf_len hw
  obtain ⟨q1, q2, q3, q4⟩ := id hq
  intro m
  induction m with
  | zero =>
    intro b u hi
    have : b = a := by omega
    subst this
    rw [sg_211_22]
    (try simp (disch := omega) only [wr_id2])
    repeat (first | refine step_t (by with_reducible exact True.intro) ?_ | refine step_t (by omega) ?_ | refine step_f (by omega) ?_)
    rfl
  | succ m ih =>
    intro b u hi
    have w1 := wd_256 hw a
    have w2 := wd_256 hw b
    have w3 := xor_256 w1 w2
    have p8 := pop_le _ w3
    have e1 := q1 a (by omega)
    have e2 := q1 b (by omega)
    have e212 := s212 (d := d) (by omega) hy hq hw ha (j := b) (by omega)
    have pl := pbN_le L ha (j := b) (by omega)
    rw [sg_211_22]
    (try simp (disch := omega) only [wr_id2])
    repeat (first | refine step_t (by with_reducible exact True.intro) ?_ | refine step_t (by omega) ?_ | refine step_f (by omega) ?_)
    refine step_c (e212) ?_
    try dsimp only
    (try simp (disch := omega) only [wr_id2])
    unfold allF
    refine step_i (fun g => ?_) (fun g => ?_)
    · rw [if_pos (show (!(decide (1 < pbN L a b) && decide (pop (wd L a ^^^ wd L b) < 2))) = true by rw [decide_eq_false (by omega)]; rfl)]
      exact ih (b + 1) _ (by omega)
    · (try simp (disch := omega) only [p107, e1, e2, i_xor_n (a := wd L a) (b := wd L b) (by omega) (by omega), wr_id2])
      repeat (first | refine step_t (by with_reducible exact True.intro) ?_ | refine step_t (by omega) ?_ | refine step_f (by omega) ?_)
      refine step_c (s209 (by omega) σ (x := wd L a ^^^ wd L b) (by omega)) ?_
      try dsimp only
      (try simp (disch := omega) only [wr_id2])
      refine step_i (fun g2 => ?_) (fun g2 => ?_)
      · rw [if_pos (show (!(decide (1 < pbN L a b) && decide (pop (wd L a ^^^ wd L b) < 2))) = true by rw [decide_eq_false (show ¬ pop (wd L a ^^^ wd L b) < 2 by omega), Bool.and_false]; rfl)]
        exact ih (b + 1) _ (by omega)
      · rw [if_neg (show ¬ (!(decide (1 < pbN L a b) && decide (pop (wd L a ^^^ wd L b) < 2))) = true by rw [decide_eq_true (show 1 < pbN L a b by omega), decide_eq_true (show pop (wd L a ^^^ wd L b) < 2 by omega)]; decide), if_neg (by decide)]
theorem s211l {d : Nat} (h : 7 ≤ d) {σ : HP} {L : LB} (hy : Lay σ) (hq : wdR σ L) (hw : wf0 L) : ∀ (m a : Nat) (u u3 : MV), a + m = shN L → rsP PG0 MX d 211 12 [vR 101, u, vI a, u3] [] σ = some (b2i (allF (fun a => allF (fun b => !(decide (1 < pbN L a b) && decide (pop (wd L a ^^^ wd L b) < 2))) a 0) m a), σ) := by
  have y1 := hy.1; have k101 := y101_m1 hy; have p107 := y101_15 hy; have k107 := y107_m1 hy; have l107 := y107_m2 hy
  have hs := shN_le L
  have hl := wf_len hw
  obtain ⟨q1, q2, q3, q4⟩ := id hq
  intro m
  induction m with
  | zero =>
    intro a u u3 hi
    rw [sg_211_12]
    (try simp (disch := omega) only [q3, wr_id2])
    repeat (first | refine step_t (by with_reducible exact True.intro) ?_ | refine step_t (by omega) ?_ | refine step_f (by omega) ?_)
    rfl
  | succ m ih =>
    intro a u u3 hi
    have e := s211i (d := d) h hy hq hw (a := a) (by omega) a 0 vU (by omega)
    rw [sg_211_12]
    (try simp (disch := omega) only [q3, wr_id2])
    repeat (first | refine step_t (by with_reducible exact True.intro) ?_ | refine step_t (by omega) ?_ | refine step_f (by omega) ?_)
    refine Eq.trans e ?_
    show _ = some (b2i (if allF (fun b => !(decide (1 < pbN L a b) && decide (pop (wd L a ^^^ wd L b) < 2))) a 0 = true then _ else false), σ)
    by_cases z : allF (fun b => !(decide (1 < pbN L a b) && decide (pop (wd L a ^^^ wd L b) < 2))) a 0 = true
    · rw [if_pos z, if_pos z]
      exact ih (a + 1) _ _ (by omega)
    · rw [if_neg z, if_neg z]
      rfl
theorem s211 {d : Nat} (h : 8 ≤ d) {σ : HP} {n : Nat} {L : LB} (hy : Lay σ) (hn : n < 3) (hr : slR σ n L) (hw : wf0 L) : ∃ σ', clR PG0 MX d 211 [vR 101, vI n] σ = some (b2i (snkB L), σ') ∧ FQ σ σ' := by
  obtain ⟨d, rfl⟩ := ob1 (show 1 ≤ d by omega)
  have y1 := hy.1; have k101 := y101_m1 hy
  obtain ⟨σ1, k1, k2, k3, k4⟩ := s202 (d := d) (by omega) hy hn hr hw
  refine ⟨σ1, ?_, k2⟩
  rw [ce_211, sg_211_0]
  repeat (first | refine step_t (by with_reducible exact True.intro) ?_ | refine step_t (by omega) ?_ | refine step_f (by omega) ?_)
  refine step_c (k1) ?_
  try dsimp only
  rw [wr_b2i]
  unfold snkB
  cases hc : clnB L with
  | false =>
    refine step_f (show ¬ (b2i false ≠ 0) by decide) ?_
    rfl
  | true =>
    refine step_t (show b2i true ≠ 0 by decide) ?_
    rw [snk_eq hw hc, Bool.true_and]
    exact s211l (d := d) (by omega) k2.2 k4 hw (shN L) 0 _ _ (by omega)
/-- isMonotone -/
theorem s210 {d : Nat} (h : 7 ≤ d) {σ : HP} {n : Nat} {L : LB} (hy : Lay σ) (hn : n < 3) (hr : slR σ n L) (hw : wf0 L) : ∃ σ', clR PG0 MX d 210 [vR 101, vI n] σ = some (b2i (monF L (lT L).length 0 0), σ') ∧ FQ σ σ' := by
  obtain ⟨d, rfl⟩ := ob1 (show 1 ≤ d by omega)
  have y1 := hy.1; have k101 := y101_m1 hy
  obtain ⟨σ1, k1, k2, k3, k4⟩ := s203 (d := d) (by omega) hy hn hr hw
  refine ⟨σ1, ?_, k2⟩
  rw [ce_210, sg_210_0]
  repeat (first | refine step_t (by with_reducible exact True.intro) ?_ | refine step_t (by omega) ?_ | refine step_f (by omega) ?_)
  refine step_c (k1) ?_
  try dsimp only
  exact s210l (d := d) (by omega) k2.2 hn k3 k4 hw (lT L).length 0 0 _ (by omega) (by omega)
/-- is -/
theorem s201 {d : Nat} (h : 9 ≤ d) {σ : HP} {n : Nat} {L : LB} (hy : Lay σ) (hn : n < 3) (hr : slR σ n L) (hw : wfL L) {w : Int} (w0 : 0 ≤ w) (w6 : w ≤ 6) : ∃ (σ' : HP) (z : Bool), clR PG0 MX d 201 [vR 101, vI n, vI w] σ = some (b2i z, σ') ∧ FQ σ σ' ∧ isF w L = b2i z := by
  obtain ⟨d, rfl⟩ := ob1 (show 1 ≤ d by omega)
  have y1 := hy.1; have k101 := y101_m1 hy
  rcases (show w = 0 ∨ w = 1 ∨ w = 2 ∨ w = 3 ∨ w = 4 ∨ w = 5 ∨ w = 6 by omega) with e | e | e | e | e | e | e <;> subst e
  · obtain ⟨σ1, k1, k2, k3, k4⟩ := s203 (d := d) (by omega) hy hn hr hw.1
    have hy1 := k2.2
    have y1b := hy1.1; have k101b := y101_m1 hy1
    refine ⟨σ1, lpB L, ?_, k2, rfl⟩
    rw [ce_201, sg_201_0]
    (try simp (disch := omega) only [wr_id2])
    repeat (first | refine step_t (by with_reducible exact True.intro) ?_ | refine step_t (by omega) ?_ | refine step_f (by omega) ?_)
    refine step_c (k1) ?_
    try dsimp only
    (try simp (disch := omega) only [k4.2.2.2, wr_id2])
    repeat (first | refine step_t (by with_reducible exact True.intro) ?_ | refine step_t (b2i_01 _) ?_ | refine step_t (by omega) ?_ | refine step_f (by omega) ?_)
    rfl
  · obtain ⟨σ1, k1, k2, k3, k4⟩ := s202 (d := d) (by omega) hy hn hr hw.1
    refine ⟨σ1, clnB L, ?_, k2, rfl⟩
    rw [ce_201, sg_201_0]
    (try simp (disch := omega) only [wr_id2])
    repeat (first | refine step_t (by with_reducible exact True.intro) ?_ | refine step_t (by omega) ?_ | refine step_f (by omega) ?_)
    refine step_c (k1) ?_
    try dsimp only
    repeat (first | refine step_t (by with_reducible exact True.intro) ?_ | refine step_t (b2i_01 _) ?_ | refine step_t (by omega) ?_ | refine step_f (by omega) ?_)
    rfl
  · obtain ⟨σ1, k1, k2, k3, k4⟩ := s206 (d := d) (by omega) hy hn hr hw.1
    refine ⟨σ1, fulB L, ?_, k2, rfl⟩
    rw [ce_201, sg_201_0]
    (try simp (disch := omega) only [wr_id2])
    repeat (first | refine step_t (by with_reducible exact True.intro) ?_ | refine step_t (by omega) ?_ | refine step_f (by omega) ?_)
    refine step_c (k1) ?_
    try dsimp only
    repeat (first | refine step_t (by with_reducible exact True.intro) ?_ | refine step_t (b2i_01 _) ?_ | refine step_t (by omega) ?_ | refine step_f (by omega) ?_)
    rfl
  · obtain ⟨σ1, k1, k2⟩ := s210 (d := d) (by omega) hy hn hr hw.1
    refine ⟨σ1, monF L (lT L).length 0 0, ?_, k2, rfl⟩
    rw [ce_201, sg_201_0]
    (try simp (disch := omega) only [wr_id2])
    repeat (first | refine step_t (by with_reducible exact True.intro) ?_ | refine step_t (by omega) ?_ | refine step_f (by omega) ?_)
    refine step_c (k1) ?_
    try dsimp only
    repeat (first | refine step_t (by with_reducible exact True.intro) ?_ | refine step_t (b2i_01 _) ?_ | refine step_t (by omega) ?_ | refine step_f (by omega) ?_)
    rfl
  · obtain ⟨σ1, k1, k2⟩ := s211 (d := d) (by omega) hy hn hr hw.1
    refine ⟨σ1, snkB L, ?_, k2, rfl⟩
    rw [ce_201, sg_201_0]
    (try simp (disch := omega) only [wr_id2])
    repeat (first | refine step_t (by with_reducible exact True.intro) ?_ | refine step_t (by omega) ?_ | refine step_f (by omega) ?_)
    refine step_c (k1) ?_
    try dsimp only
    repeat (first | refine step_t (by with_reducible exact True.intro) ?_ | refine step_t (b2i_01 _) ?_ | refine step_t (by omega) ?_ | refine step_f (by omega) ?_)
    rfl
  · obtain ⟨σ1, k1, k2⟩ := s213 (d := d) (by omega) hy hn hr hw.1
    refine ⟨σ1, oppB L, ?_, k2, rfl⟩
    rw [ce_201, sg_201_0]
    (try simp (disch := omega) only [wr_id2])
    repeat (first | refine step_t (by with_reducible exact True.intro) ?_ | refine step_t (by omega) ?_ | refine step_f (by omega) ?_)
    refine step_c (k1) ?_
    try dsimp only
    repeat (first | refine step_t (by with_reducible exact True.intro) ?_ | refine step_t (b2i_01 _) ?_ | refine step_t (by omega) ?_ | refine step_f (by omega) ?_)
    rfl
  · obtain ⟨σ1, k1, k2⟩ := s214 (d := d) (by omega) hy hn hr hw.1 hw.2.1
    refine ⟨σ1, oneB L, ?_, k2, rfl⟩
    rw [ce_201, sg_201_0]
    (try simp (disch := omega) only [wr_id2])
    repeat (first | refine step_t (by with_reducible exact True.intro) ?_ | refine step_t (by omega) ?_ | refine step_f (by omega) ?_)
    refine step_c (k1) ?_
    try dsimp only
    repeat (first | refine step_t (by with_reducible exact True.intro) ?_ | refine step_t (b2i_01 _) ?_ | refine step_t (by omega) ?_ | refine step_f (by omega) ?_)
    rfl
theorem m200 (S : AS) {s w : Int} (hs : i32 s) (hx : i32 w) : mOp 200 [vI s, vI w] S (qA S s (isF w), S) := by
  intro d σ h hy ht hm
  obtain ⟨d, rfl⟩ := ob1 (show 1 ≤ d by omega)
  have y1 := hy.1; have k101 := y101_m1 hy; have p102 := y101_0 hy; have k102 := y102_m1 hy; have l102 := y102_m2 hy; have p107 := y101_15 hy; have k107 := y107_m1 hy; have l107 := y107_m2 hy; have p108 := y101_16 hy; have k108 := y108_m1 hy; have l108 := y108_m2 hy
  unfold qA
  cases e : gl S s with
  | none =>
    refine ⟨σ, ?_, (FM.rf hy).fl, hm⟩
    rw [ce_200, sg_200_0]
    repeat (first | refine step_t (by with_reducible exact True.intro) ?_ | refine step_t (by omega) ?_ | refine step_f (by omega) ?_)
    refine step_c (s180n (by omega) hy hm hs e) ?_
    try dsimp only
    (try simp (disch := omega) only [wr_id2])
    repeat (first | refine step_t (by with_reducible exact True.intro) ?_ | refine step_t (by omega) ?_ | refine step_f (by omega) ?_)
    rfl
  | some L =>
    have e180 := s180s (d := d) (by omega) hy hm hs e
    obtain ⟨n, rfl, hn, hr, hw, en⟩ := hm.got e
    have hl := wf_len hw.1
    have h9 := hw.1.1
    have h1N := hw.2.1
    have hp8 := pow8 hw.1.1
    have hp0 := Nat.two_pow_pos (lN0 L)
    have hsh := shN_le L
    dsimp only
    have e1 := s179 (d := d) (by omega) σ hx (y := 0) (z := 6) ⟨by decide, by decide⟩ ⟨by decide, by decide⟩
    have wx := hx.wr
    by_cases z : 0 ≤ w ∧ w ≤ 6
    · rw [decide_eq_true z] at e1
      obtain ⟨σ1, b, k1, k2, k3⟩ := s201 (d := d) (by omega) hy hn hr hw z.1 z.2
      refine ⟨σ1, ?_, k2.ml, k2.mr hm⟩
      rw [ce_200, sg_200_0, k3]
      repeat (first | refine step_t (by with_reducible exact True.intro) ?_ | refine step_t (by omega) ?_ | refine step_f (by omega) ?_)
      refine step_c (e180) ?_
      try dsimp only
      (try simp (disch := omega) only [wx, wr_id2])
      repeat (first | refine step_t (by with_reducible exact True.intro) ?_ | refine step_t (by omega) ?_ | refine step_f (by omega) ?_)
      refine step_c (e1) ?_
      try dsimp only
      rw [wr_b2i]
      refine step_t (show b2i true ≠ 0 by decide) ?_
      repeat (first | refine step_t (by with_reducible exact True.intro) ?_ | refine step_t (by omega) ?_ | refine step_f (by omega) ?_)
      refine step_c (k1) ?_
      try dsimp only
      rw [wr_b2i]
      cases b
      · refine step_t (show b2i false = 0 by decide) ?_
        rfl
      · refine step_f (show ¬ (b2i true = 0) by decide) ?_
        rfl
    · rw [decide_eq_false z] at e1
      have ei : isF w L = -2 := by
        unfold isF
        rw [if_neg (by omega), if_neg (by omega), if_neg (by omega), if_neg (by omega), if_neg (by omega), if_neg (by omega), if_neg (by omega)]
      refine ⟨σ, ?_, (FM.rf hy).fl, hm⟩
      rw [ce_200, sg_200_0, ei]
      repeat (first | refine step_t (by with_reducible exact True.intro) ?_ | refine step_t (by omega) ?_ | refine step_f (by omega) ?_)
      refine step_c (e180) ?_
      try dsimp only
      (try simp (disch := omega) only [wx, wr_id2])
      repeat (first | refine step_t (by with_reducible exact True.intro) ?_ | refine step_t (by omega) ?_ | refine step_f (by omega) ?_)
      refine step_c (e1) ?_
      try dsimp only
      rw [wr_b2i]
      refine step_f (show ¬ (b2i false ≠ 0) by decide) ?_
      rfl
/-- look -/
theorem s217l {d : Nat} (h : 2 ≤ d) {σ : HP} {n : Nat} {L : LB} (hy : Lay σ) (hn : n < 3) (hr : slR σ n L) (hq : wdR σ L) (hw : wf0 L) {w : Int} (w0 : 5 ≤ w) (w7 : w ≤ 7) : ∀ (m i : Nat), i + m = 2 ^ lN0 L → rsP PG0 MX d 217 48 [vR 101, vI n, vI w, vI (cntB (fun w => decide (0 < cW L w)) i : Nat), vI (cntB (inSc L) i : Nat), vI i] [] σ = some (lokF w L, σ) := by
  have y1 := hy.1; have k101 := y101_m1 hy; have p108 := y101_16 hy; have k108 := y108_m1 hy; have l108 := y108_m2 hy
  have h8 := pow8 hw.1
  have h9 := hw.1
  have hs := shN_le L
  have hl := wf_len hw
  have e207 := s207 (d := d) (by omega) hy hn hr
  obtain ⟨q1, q2, q3, q4⟩ := hq
  intro m
  induction m with
  | zero =>
    intro i hi
    have : i = 2 ^ lN0 L := by omega
    subst this
    rw [sg_217_48]
    repeat (first | refine step_t (by with_reducible exact True.intro) ?_ | refine step_t (by omega) ?_ | refine step_f (by omega) ?_)
    refine step_c (e207) ?_
    try dsimp only
    rw [shl1 (show lN0 L < 31 by omega)]
    (try simp (disch := omega) only [q3, wr_id2])
    refine step_t (by omega) ?_
    unfold lokF
    rw [if_neg (by omega), if_neg (by omega), if_neg (by omega), if_neg (by omega), if_neg (by omega)]
    refine step_i (fun g => ?_) (fun g => ?_)
    · rw [if_neg g]
      refine step_i (fun g2 => ?_) (fun g2 => ?_)
      · rw [if_neg g2, if_pos (by omega)]
      · rw [if_pos (by omega)]
        rfl
    · rw [if_pos (by omega)]
      repeat (first | refine step_t (by with_reducible exact True.intro) ?_ | refine step_t (by omega) ?_ | refine step_f (by omega) ?_)
      rfl
  | succ m ih =>
    intro i hi
    have e208 := s208 (d := d) (by omega) hy hn hr hw (x := i) (by omega)
    have e2 := q2 i (by omega)
    have e3 : cW L i ≤ shN L := cwN_le L i _
    have q := ih (i + 1) (by omega)
    rw [cntB_s, cntB_s] at q
    have key : ∀ y : Nat, y = (bif decide (0 < cW L i) then 1 else 0) → rsP PG0 MX d 217 76 [vR 101, vI n, vI w, vI (cntB (fun w => decide (0 < cW L w)) i : Nat), vI (cntB (inSc L) i : Nat), vI i] [vI y, vI (cntB (fun w => decide (0 < cW L w)) i : Nat)] σ = some (lokF w L, σ) := by
      intro y hy2
      rw [← hy2] at q
      rw [sg_217_76]
      repeat (first | refine step_t (by with_reducible exact True.intro) ?_ | refine step_t (by omega) ?_ | refine step_f (by omega) ?_)
      refine step_c (e208) ?_
      try dsimp only
      rw [wr_b2i]
      cases hI : inSc L i with
      | false =>
        rw [hI] at q
        refine step_t (show b2i false = 0 by decide) ?_
        exact q
      | true =>
        rw [hI] at q
        refine step_f (show ¬ (b2i true = 0) by decide) ?_
        exact q
    rw [sg_217_48]
    repeat (first | refine step_t (by with_reducible exact True.intro) ?_ | refine step_t (by omega) ?_ | refine step_f (by omega) ?_)
    refine step_c (e207) ?_
    try dsimp only
    rw [shl1 (show lN0 L < 31 by omega)]
    (try simp (disch := omega) only [p108, e2, wr_id2])
    repeat (first | refine step_t (by with_reducible exact True.intro) ?_ | refine step_t (by omega) ?_ | refine step_f (by omega) ?_)
    refine step_i (fun g => ?_) (fun g => ?_)
    · exact key 0 (by rw [decide_eq_false (by omega)]; rfl)
    · exact key 1 (by rw [decide_eq_true (by omega)]; rfl)
theorem m217 (S : AS) {s w : Int} (hs : i32 s) (hx : i32 w) : mOp 217 [vI s, vI w] S (qA S s (lokF w), S) := by
  intro d σ h hy ht hm
  obtain ⟨d, rfl⟩ := ob1 (show 1 ≤ d by omega)
  have y1 := hy.1; have k101 := y101_m1 hy; have p102 := y101_0 hy; have k102 := y102_m1 hy; have l102 := y102_m2 hy; have p107 := y101_15 hy; have k107 := y107_m1 hy; have l107 := y107_m2 hy; have p108 := y101_16 hy; have k108 := y108_m1 hy; have l108 := y108_m2 hy
  unfold qA
  cases e : gl S s with
  | none =>
    refine ⟨σ, ?_, (FM.rf hy).fl, hm⟩
    rw [ce_217, sg_217_0]
    repeat (first | refine step_t (by with_reducible exact True.intro) ?_ | refine step_t (by omega) ?_ | refine step_f (by omega) ?_)
    refine step_c (s180n (by omega) hy hm hs e) ?_
    try dsimp only
    (try simp (disch := omega) only [wr_id2])
    repeat (first | refine step_t (by with_reducible exact True.intro) ?_ | refine step_t (by omega) ?_ | refine step_f (by omega) ?_)
    rfl
  | some L =>
    have e180 := s180s (d := d) (by omega) hy hm hs e
    obtain ⟨n, rfl, hn, hr, hw, en⟩ := hm.got e
    have hl := wf_len hw.1
    have h9 := hw.1.1
    have h1N := hw.2.1
    have hp8 := pow8 hw.1.1
    have hp0 := Nat.two_pow_pos (lN0 L)
    have hsh := shN_le L
    dsimp only
    have e1 := s179 (d := d) (by omega) σ hx (y := 0) (z := 7) ⟨by decide, by decide⟩ ⟨by decide, by decide⟩
    have wx := hx.wr
    have x1 := hx.1
    have x2 := hx.2
    by_cases z : 0 ≤ w ∧ w ≤ 7
    · rw [decide_eq_true z] at e1
      by_cases z5 : 5 ≤ w
      · obtain ⟨σ1, k1, k2, k3, k4⟩ := s203 (d := d) (by omega) hy hn hr hw.1
        refine ⟨σ1, ?_, k2.ml, k2.mr hm⟩
        rw [ce_217, sg_217_0]
        repeat (first | refine step_t (by with_reducible exact True.intro) ?_ | refine step_t (by omega) ?_ | refine step_f (by omega) ?_)
        refine step_c (e180) ?_
        try dsimp only
        (try simp (disch := omega) only [wx, wr_id2])
        repeat (first | refine step_t (by with_reducible exact True.intro) ?_ | refine step_t (by omega) ?_ | refine step_f (by omega) ?_)
        refine step_c (e1) ?_
        try dsimp only
        rw [wr_b2i]
        refine step_t (show b2i true ≠ 0 by decide) ?_
        (try simp (disch := omega) only [wr_id2])
        repeat (first | refine step_t (by with_reducible exact True.intro) ?_ | refine step_t (by omega) ?_ | refine step_f (by omega) ?_)
        refine step_c (k1) ?_
        try dsimp only
        exact s217l (d := d) (by omega) k2.2 hn k3 k4 hw.1 (w := w) (by omega) (by omega) (2 ^ lN0 L) 0 (by omega)
      · have ev : σ 102 (261 * (n : Int) + w) = lokF w L := by
          obtain ⟨r0, r1, r2, r3, r4, -⟩ := id hr
          rcases (show w = 0 ∨ w = 1 ∨ w = 2 ∨ w = 3 ∨ w = 4 by omega) with e | e | e | e | e <;> subst e
          · exact r0
          · exact r1
          · exact r2
          · exact r3
          · exact r4
        refine ⟨σ, ?_, (FM.rf hy).fl, hm⟩
        rw [ce_217, sg_217_0]
        repeat (first | refine step_t (by with_reducible exact True.intro) ?_ | refine step_t (by omega) ?_ | refine step_f (by omega) ?_)
        refine step_c (e180) ?_
        try dsimp only
        (try simp (disch := omega) only [wx, wr_id2])
        repeat (first | refine step_t (by with_reducible exact True.intro) ?_ | refine step_t (by omega) ?_ | refine step_f (by omega) ?_)
        refine step_c (e1) ?_
        try dsimp only
        rw [wr_b2i]
        refine step_t (show b2i true ≠ 0 by decide) ?_
        (try simp (disch := omega) only [wr_id2])
        repeat (first | refine step_t (by with_reducible exact True.intro) ?_ | refine step_t (by omega) ?_ | refine step_f (by omega) ?_)
        refine step_c (s181 (by omega) hy hn (j := w) (by omega) (by omega)) ?_
        try dsimp only
        rw [ev]
    · rw [decide_eq_false z] at e1
      have ei : lokF w L = -2 := by
        unfold lokF
        rw [if_neg (by omega), if_neg (by omega), if_neg (by omega), if_neg (by omega), if_neg (by omega), if_neg (by omega), if_neg (by omega), if_neg (by omega)]
      refine ⟨σ, ?_, (FM.rf hy).fl, hm⟩
      rw [ce_217, sg_217_0, ei]
      repeat (first | refine step_t (by with_reducible exact True.intro) ?_ | refine step_t (by omega) ?_ | refine step_f (by omega) ?_)
      refine step_c (e180) ?_
      try dsimp only
      (try simp (disch := omega) only [wx, wr_id2])
      repeat (first | refine step_t (by with_reducible exact True.intro) ?_ | refine step_t (by omega) ?_ | refine step_f (by omega) ?_)
      refine step_c (e1) ?_
      try dsimp only
      rw [wr_b2i]
      refine step_f (show ¬ (b2i false ≠ 0) by decide) ?_
      rfl
/-- uneven -/
theorem m227 (S : AS) {s : Int} (hs : i32 s) : mOp 227 [vI s] S (qA S s unvQ, S) := by
  intro d σ h hy ht hm
  obtain ⟨d, rfl⟩ := ob1 (show 1 ≤ d by omega)
  have y1 := hy.1; have k101 := y101_m1 hy; have p102 := y101_0 hy; have k102 := y102_m1 hy; have l102 := y102_m2 hy; have p107 := y101_15 hy; have k107 := y107_m1 hy; have l107 := y107_m2 hy; have p108 := y101_16 hy; have k108 := y108_m1 hy; have l108 := y108_m2 hy
  unfold qA
  cases e : gl S s with
  | none =>
    refine ⟨σ, ?_, (FM.rf hy).fl, hm⟩
    rw [ce_227, sg_227_0]
    repeat (first | refine step_t (by with_reducible exact True.intro) ?_ | refine step_t (by omega) ?_ | refine step_f (by omega) ?_)
    refine step_c (s180n (by omega) hy hm hs e) ?_
    try dsimp only
    (try simp (disch := omega) only [wr_id2])
    repeat (first | refine step_t (by with_reducible exact True.intro) ?_ | refine step_t (by omega) ?_ | refine step_f (by omega) ?_)
    rfl
  | some L =>
    have e180 := s180s (d := d) (by omega) hy hm hs e
    obtain ⟨n, rfl, hn, hr, hw, en⟩ := hm.got e
    have hl := wf_len hw.1
    have h9 := hw.1.1
    have h1N := hw.2.1
    have hp8 := pow8 hw.1.1
    have hp0 := Nat.two_pow_pos (lN0 L)
    have hsh := shN_le L
    dsimp only
    have i0 : i32 0 := ⟨by decide, by decide⟩
    have iN : i32 ((lN0 L : Nat) - 1 : Int) := ⟨by omega, by omega⟩
    have a1 := s226 (d := d) (by omega) hy hm hs i0 e
    have a2 := s226 (d := d) (by omega) hy hm hs iN e
    have e207 := s207 (d := d) (by omega) hy hn hr
    obtain ⟨y, o1, o2, o3⟩ := ord_0 (L := L) (by omega)
    obtain ⟨x, p1, p2, p3⟩ := ord_n hw.1 (by omega)
    unfold ordQ at a1 a2
    rw [if_pos (by omega), o1] at a1
    rw [if_pos (by omega), p1] at a2
    have b1 := s225 (d := d) (by omega) hy hn hr hw.1 (x := y) (by omega)
    have b2 := s225 (d := d) (by omega) hy hn hr hw.1 (x := x) (by omega)
    rw [o3] at b1
    rw [p3] at b2
    refine ⟨σ, ?_, (FM.rf hy).fl, hm⟩
    rw [ce_227, sg_227_0]
    repeat (first | refine step_t (by with_reducible exact True.intro) ?_ | refine step_t (by omega) ?_ | refine step_f (by omega) ?_)
    refine step_c (e180) ?_
    try dsimp only
    (try simp (disch := omega) only [wr_id2])
    repeat (first | refine step_t (by with_reducible exact True.intro) ?_ | refine step_t (by omega) ?_ | refine step_f (by omega) ?_)
    refine step_c (a1) ?_
    try dsimp only
    repeat (first | refine step_t (by with_reducible exact True.intro) ?_ | refine step_t (by omega) ?_ | refine step_f (by omega) ?_)
    refine step_c (b1) ?_
    try dsimp only
    repeat (first | refine step_t (by with_reducible exact True.intro) ?_ | refine step_t (by omega) ?_ | refine step_f (by omega) ?_)
    refine step_c (e207) ?_
    try dsimp only
    repeat (first | refine step_t (by with_reducible exact True.intro) ?_ | refine step_t (by omega) ?_ | refine step_f (by omega) ?_)
    refine step_c (a2) ?_
    try dsimp only
    repeat (first | refine step_t (by with_reducible exact True.intro) ?_ | refine step_t (by omega) ?_ | refine step_f (by omega) ?_)
    refine step_c (b2) ?_
    try dsimp only
    rfl
/-- same -/
theorem s239l {d : Nat} (h : 6 ≤ d) {σ : HP} {n k : Nat} {L M : LB} (hy : Lay σ) (hn : n < 3) (hr : slR σ n L) (hw : wf0 L) (hk : k < 3) (hr2 : slR σ k M) (hM : wf0 M) : ∀ (m i : Nat), i + m = min (lT L).length (lT M).length → rsP PG0 MX d 239 50 [vR 101, vI n, vI k, vI (wd L i : Nat), vI (wd M i : Nat), vI (cntB (fun i => decide (wd L i = wd M i)) (i + 1) : Nat), vI i] [] σ = some (((samN L M : Nat) : Int), σ) := by
  have y1 := hy.1; have k101 := y101_m1 hy
  have hl := wf_len hw
  have hl2 := wf_len hM
  have h9 := hw.1
  have h92 := hM.1
  have e1 := s204 (d := d) (by omega) hy hn hr
  have e2 := s204 (d := d) (by omega) hy hk hr2
  have em : (if (((lT M).length : Nat) : Int) < ((lT L).length : Nat) then (((lT M).length : Nat) : Int) else ((lT L).length : Nat)) = ((min (lT L).length (lT M).length : Nat) : Int) := by
    by_cases z : (lT M).length < (lT L).length
    · rw [if_pos (by omega), Nat.min_eq_right (by omega)]
    · rw [if_neg (by omega), Nat.min_eq_left (by omega)]
  intro m
  induction m with
  | zero =>
    intro i hi
    have : i = min (lT L).length (lT M).length := by omega
    subst this
    rw [sg_239_50]
    repeat (first | refine step_t (by with_reducible exact True.intro) ?_ | refine step_t (by omega) ?_ | refine step_f (by omega) ?_)
    refine step_c (e1) ?_
    try dsimp only
    repeat (first | refine step_t (by with_reducible exact True.intro) ?_ | refine step_t (by omega) ?_ | refine step_f (by omega) ?_)
    refine step_c (e2) ?_
    try dsimp only
    refine step_c (p_min (by omega) σ _ _) ?_
    try dsimp only
    (try simp (disch := omega) only [em, wr_id2])
    refine step_t (by omega) ?_
    rfl
  | succ m ih =>
    intro i hi
    obtain ⟨x, hx⟩ := st_get (L := L) (i := i) (by omega)
    obtain ⟨y, hy2⟩ := st_get (L := M) (i := i) (by omega)
    have x3 := st_lt hw hx
    have y3 := st_lt hM hy2
    have a1 := s205 (d := d) (by omega) hy hn hr hw hx
    have a2 := s205 (d := d) (by omega) hy hk hr2 hM hy2
    have w1 := wd_256 hw i
    have w2 := wd_256 hM i
    have px := p256 (x := x) (by omega)
    have py := p256 (x := y) (by omega)
    have f1 : wd L (i + 1) = wd L i ^^^ 2 ^ x := wdL_succ _ _ i x hx
    have f2 : wd M (i + 1) = wd M i ^^^ 2 ^ y := wdL_succ _ _ i y hy2
    have v1 := wd_256 hw (i + 1)
    have v2 := wd_256 hM (i + 1)
    have q := ih (i + 1) (by omega)
    rw [cntB_s] at q
    rw [sg_239_50]
    repeat (first | refine step_t (by with_reducible exact True.intro) ?_ | refine step_t (by omega) ?_ | refine step_f (by omega) ?_)
    refine step_c (e1) ?_
    try dsimp only
    repeat (first | refine step_t (by with_reducible exact True.intro) ?_ | refine step_t (by omega) ?_ | refine step_f (by omega) ?_)
    refine step_c (e2) ?_
    try dsimp only
    refine step_c (p_min (by omega) σ _ _) ?_
    try dsimp only
    (try simp (disch := omega) only [em, wr_id2])
    refine step_f (by omega) ?_
    repeat (first | refine step_t (by with_reducible exact True.intro) ?_ | refine step_t (by omega) ?_ | refine step_f (by omega) ?_)
    refine step_c (a1) ?_
    try dsimp only
    rw [shl1 (x := x) (by omega), i_xor_n (a := wd L i) (b := 2 ^ x) (by omega) (by omega), ← f1, sg_239_80]
    repeat (first | refine step_t (by with_reducible exact True.intro) ?_ | refine step_t (by omega) ?_ | refine step_f (by omega) ?_)
    refine step_c (a2) ?_
    try dsimp only
    rw [shl1 (x := y) (by omega), i_xor_n (a := wd M i) (b := 2 ^ y) (by omega) (by omega), ← f2]
    (try simp (disch := omega) only [wr_id2])
    refine step_i (fun g => ?_) (fun g => ?_)
    · rw [decide_eq_false (by omega)] at q
      exact q
    · rw [decide_eq_true (by omega)] at q
      exact q
theorem m239 (S : AS) {s t : Int} (hs : i32 s) (ht2 : i32 t) : mOp 239 [vI s, vI t] S (samA S s t, S) := by
  intro d σ h hy ht hm
  obtain ⟨d, rfl⟩ := ob1 (show 1 ≤ d by omega)
  have y1 := hy.1; have k101 := y101_m1 hy; have p102 := y101_0 hy; have k102 := y102_m1 hy; have l102 := y102_m2 hy
  refine ⟨σ, ?_, (FM.rf hy).fl, hm⟩
  unfold samA
  cases e : gl S s with
  | none =>
    rw [ce_239, sg_239_0]
    repeat (first | refine step_t (by with_reducible exact True.intro) ?_ | refine step_t (by omega) ?_ | refine step_f (by omega) ?_)
    refine step_c (s180n (by omega) hy hm hs e) ?_
    try dsimp only
    (try simp (disch := omega) only [wr_id2])
    repeat (first | refine step_t (by with_reducible exact True.intro) ?_ | refine step_t (by omega) ?_ | refine step_f (by omega) ?_)
    rfl
  | some L =>
    have e180 := s180s (d := d) (by omega) hy hm hs e
    obtain ⟨n, rfl, hn, hr, hw, en⟩ := hm.got e
    cases f : gl S t with
    | none =>
      rw [ce_239, sg_239_0]
      repeat (first | refine step_t (by with_reducible exact True.intro) ?_ | refine step_t (by omega) ?_ | refine step_f (by omega) ?_)
      refine step_c (e180) ?_
      try dsimp only
      (try simp (disch := omega) only [wr_id2])
      repeat (first | refine step_t (by with_reducible exact True.intro) ?_ | refine step_t (by omega) ?_ | refine step_f (by omega) ?_)
      refine step_c (s180n (by omega) hy hm ht2 f) ?_
      try dsimp only
      (try simp (disch := omega) only [wr_id2])
      repeat (first | refine step_t (by with_reducible exact True.intro) ?_ | refine step_t (by omega) ?_ | refine step_f (by omega) ?_)
      rfl
    | some M =>
      have f180 := s180s (d := d) (by omega) hy hm ht2 f
      obtain ⟨k, rfl, hk, hr2, hM, ek⟩ := hm.got f
      have q := s239l (d := d) (by omega) hy hn hr hw.1 hk hr2 hM.1 (min (lT L).length (lT M).length) 0 (by omega)
      rw [wd_0, wd_0] at q
      have sL := lS_256 hw.1
      have sM := lS_256 hM.1
      have qc : cntB (fun i => decide (wd L i = wd M i)) (0 + 1) = (bif decide (lS L = lS M) then 1 else 0) := by
        rw [cntB_s, wd_0, wd_0]
        exact Nat.zero_add _
      rw [qc] at q
      rw [ce_239, sg_239_0]
      repeat (first | refine step_t (by with_reducible exact True.intro) ?_ | refine step_t (by omega) ?_ | refine step_f (by omega) ?_)
      refine step_c (e180) ?_
      try dsimp only
      (try simp (disch := omega) only [wr_id2])
      repeat (first | refine step_t (by with_reducible exact True.intro) ?_ | refine step_t (by omega) ?_ | refine step_f (by omega) ?_)
      refine step_c (f180) ?_
      try dsimp only
      (try simp (disch := omega) only [wr_id2])
      repeat (first | refine step_t (by with_reducible exact True.intro) ?_ | refine step_t (by omega) ?_ | refine step_f (by omega) ?_)
      refine step_c (s181 (by omega) hy hn (j := 3) (by omega) (by omega)) ?_
      try dsimp only
      repeat (first | refine step_t (by with_reducible exact True.intro) ?_ | refine step_t (by omega) ?_ | refine step_f (by omega) ?_)
      refine step_c (s181 (by omega) hy hk (j := 3) (by omega) (by omega)) ?_
      try dsimp only
      rw [hr.2.2.2.1, hr2.2.2.2.1, sg_239_34]
      (try simp (disch := omega) only [wr_id2])
      refine step_i (fun g => ?_) (fun g => ?_)
      · rw [decide_eq_false (by omega)] at q
        exact q
      · rw [decide_eq_true (by omega)] at q
        exact q
