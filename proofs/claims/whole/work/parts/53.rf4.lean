/-- placesApart -/
theorem s212e {d : Nat} (h : 6 ≤ d) {σ : HP} {L : LB} (hy : Lay σ) (hq : wdR σ L) (hw : wf0 L) {y : Nat} (hl : y ≤ shN L) (u1 u2 u3 : MV) : rsP PG0 MX d 212 14 [vR 101, u1, u2, u3] [vI y] σ = some (((if lpB L = true then min y ((lT L).length - y) else y : Nat) : Int), σ) := by
  have y1 := hy.1; have k101 := y101_m1 hy
  have hs := shN_le L
  have hn := wf_len hw
  obtain ⟨q1, q2, q3, q4⟩ := hq
  rw [sg_212_14]
  (try simp (disch := omega) only [q3, q4, wr_b2i, wr_id2])
  refine step_t (by omega) ?_
  cases hb : lpB L with
  | false =>
    refine step_t (show b2i false = 0 by decide) ?_
    rw [if_neg (by decide)]
  | true =>
    have e := shN_lp hb
    rw [if_pos rfl]
    refine step_f (show ¬ (b2i true = 0) by decide) ?_
    repeat (first | refine step_t (by with_reducible exact True.intro) ?_ | refine step_t (by omega) ?_ | refine step_f (by omega) ?_)
    refine step_c (p_min (by omega) σ _ _) ?_
    try dsimp only
    (try simp (disch := omega) only [wr_id2])
    by_cases z : (lT L).length - y < y
    · rw [if_pos (by omega), Nat.min_eq_right (by omega)]
      congr 2
      omega
    · rw [if_neg (by omega), Nat.min_eq_left (by omega)]
theorem s212 {d : Nat} (h : 7 ≤ d) {σ : HP} {L : LB} (hy : Lay σ) (hq : wdR σ L) (hw : wf0 L) {i j : Nat} (hi : i < shN L) (hj : j < shN L) : clR PG0 MX d 212 [vR 101, vI i, vI j] σ = some (((pbN L i j : Nat) : Int), σ) := by
  obtain ⟨d, rfl⟩ := ob1 (show 1 ≤ d by omega)
  have hs := shN_le L
  have hn := wf_len hw
  have e : ∀ y : Nat, y ≤ shN L → (if i < j then j - i else i - j) = y → rsP PG0 MX d 212 14 [vR 101, vI i, vI j, vU] [vI y] σ = some (((pbN L i j : Nat) : Int), σ) := by
    intro y h1 h2
    rw [s212e (d := d) (by omega) hy hq hw h1]
    unfold pbN
    rw [h2]
  rw [ce_212, sg_212_0]
  (try simp (disch := omega) only [wr_id2])
  by_cases z : i < j
  · refine step_f (by omega) ?_
    rw [show (j : Int) - (i : Int) = ((j - i : Nat) : Int) by omega]
    exact e (j - i) (by omega) (by rw [if_pos z])
  · refine step_t (by omega) ?_
    rw [show (i : Int) - (j : Int) = ((i - j : Nat) : Int) by omega]
    exact e (i - j) (by omega) (by rw [if_neg z])
/-- shiftOf -/
theorem btN_dec {a b x y : Nat} : (b2i (decide (btN a x = 1)) = b2i (decide (btN b y = 1))) ↔ btN a x = btN b y := by
  have h1 := btN_2 a x
  have h2 := btN_2 b y
  by_cases p : btN a x = 1
  · by_cases q : btN b y = 1
    · rw [decide_eq_true p, decide_eq_true q]; exact ⟨fun _ => by omega, fun _ => rfl⟩
    · rw [decide_eq_true p, decide_eq_false q]; exact ⟨fun z => absurd z (by decide), fun z => by omega⟩
  · by_cases q : btN b y = 1
    · rw [decide_eq_false p, decide_eq_true q]; exact ⟨fun z => absurd z (by decide), fun z => by omega⟩
    · rw [decide_eq_false p, decide_eq_false q]; exact ⟨fun _ => by omega, fun _ => rfl⟩
theorem s215i {d : Nat} (h : 1 ≤ d) {σ : HP} {L : LB} (hy : Lay σ) (hq : wdR σ L) (hw : wf0 L) (hb : lpB L = true) {x k : Nat} (hx : x < 8) (hk : k < 300) : ∀ (m i : Nat), i + m = (lT L).length → rsP PG0 MX d 215 15 [vR 101, vI x, vI k, vI 1, vI i] [] σ = if rolF L x k m i = true then some ((k : Int), σ) else rsP PG0 MX d 215 2 [vR 101, vI x, vI ((k : Int) + 1), vI 0, vU] [] σ := by
  have y1 := hy.1; have k101 := y101_m1 hy; have p107 := y101_15 hy; have k107 := y107_m1 hy; have l107 := y107_m2 hy
  have hl := wf_len hw
  obtain ⟨q1, q2, q3, q4⟩ := hq
  rw [shN_lp hb] at q3
  intro m
  induction m with
  | zero =>
    intro i hi
    rw [sg_215_15]
    (try simp (disch := omega) only [q3, wr_id2])
    repeat (first | refine step_t (by with_reducible exact True.intro) ?_ | refine step_t (by omega) ?_ | refine step_f (by omega) ?_)
    rw [sg_215_72]
    (try simp (disch := omega) only [wr_id2])
    repeat (first | refine step_t (by with_reducible exact True.intro) ?_ | refine step_t (by omega) ?_ | refine step_f (by omega) ?_)
    rfl
  | succ m ih =>
    intro i hi
    have hn : 0 < (lT L).length := by omega
    have hm := Nat.mod_lt (i + k) hn
    have e1 := q1 i (by omega)
    have e2 := q1 ((i + k) % (lT L).length) (by omega)
    have w1 := wd_256 hw i
    have w2 := wd_256 hw ((i + k) % (lT L).length)
    have er : i_rem ((i : Int) + (k : Int)) ((lT L).length : Nat) = (((i + k) % (lT L).length : Nat) : Int) := by
      rw [show (i : Int) + (k : Int) = ((i + k : Nat) : Int) by omega]
      exact i_rem_n (by omega) (by omega) (by omega)
    have s1 := s216 (d := d) h σ (x := wd L i) (k := x) (by omega) (by omega)
    have s2 := s216 (d := d) h σ (x := wd L ((i + k) % (lT L).length)) (k := 0) (by omega) (by omega)
    rw [sg_215_15]
    (try simp (disch := omega) only [q3, p107, e1, wr_id2])
    repeat (first | refine step_t (by with_reducible exact True.intro) ?_ | refine step_t (by omega) ?_ | refine step_f (by omega) ?_)
    refine step_c (s1) ?_
    try dsimp only
    (try simp (disch := omega) only [q3, p107, er, e2, wr_id2])
    repeat (first | refine step_t (by with_reducible exact True.intro) ?_ | refine step_t (by omega) ?_ | refine step_f (by omega) ?_)
    refine step_c (s2) ?_
    try dsimp only
    rw [wr_b2i, wr_b2i]
    unfold rolF
    refine step_i (fun g => ?_) (fun g => ?_)
    · rw [if_neg (fun z => g (btN_dec.mpr z)), sg_215_15]
      (try simp (disch := omega) only [q3, wr_id2])
      repeat (first | refine step_t (by with_reducible exact True.intro) ?_ | refine step_t (by omega) ?_ | refine step_f (by omega) ?_)
      refine step_i (fun g2 => ?_) (fun g2 => ?_)
      · rw [sg_215_72]
        (try simp (disch := omega) only [wr_id2])
        repeat (first | refine step_t (by with_reducible exact True.intro) ?_ | refine step_t (by omega) ?_ | refine step_f (by omega) ?_)
        rfl
      · rw [sg_215_72]
        (try simp (disch := omega) only [wr_id2])
        repeat (first | refine step_t (by with_reducible exact True.intro) ?_ | refine step_t (by omega) ?_ | refine step_f (by omega) ?_)
        rfl
    · rw [if_pos (show btN (wd L i) x = btN (wd L ((i + k) % (lT L).length)) 0 by
        by_cases z : btN (wd L i) x = btN (wd L ((i + k) % (lT L).length)) 0
        · exact z
        · exact absurd (fun w => z (btN_dec.mp w)) g)]
      exact ih (i + 1) (by omega)
theorem s215l {d : Nat} (h : 1 ≤ d) {σ : HP} {L : LB} (hy : Lay σ) (hq : wdR σ L) (hw : wf0 L) (hb : lpB L = true) {x : Nat} (hx : x < 8) : ∀ (m k : Nat) (u3 u4 : MV), k + m = (lT L).length → rsP PG0 MX d 215 2 [vR 101, vI x, vI k, u3, u4] [] σ = some (shfF L x m k, σ) := by
  have y1 := hy.1; have k101 := y101_m1 hy; have p107 := y101_15 hy; have k107 := y107_m1 hy; have l107 := y107_m2 hy
  have hl := wf_len hw
  have q3 := hq.2.2.1
  rw [shN_lp hb] at q3
  intro m
  induction m with
  | zero =>
    intro k u3 u4 hk
    rw [sg_215_2]
    (try simp (disch := omega) only [q3, wr_id2])
    repeat (first | refine step_t (by with_reducible exact True.intro) ?_ | refine step_t (by omega) ?_ | refine step_f (by omega) ?_)
    rfl
  | succ m ih =>
    intro k u3 u4 hk
    have e := s215i (d := d) h hy hq hw hb hx (k := k) (by omega) (lT L).length 0 (by omega)
    rw [sg_215_2]
    (try simp (disch := omega) only [q3, wr_id2])
    repeat (first | refine step_t (by with_reducible exact True.intro) ?_ | refine step_t (by omega) ?_ | refine step_f (by omega) ?_)
    refine Eq.trans e ?_
    unfold shfF
    by_cases z : rolF L x k (lT L).length 0 = true
    · rw [if_pos z, if_pos z]
    · rw [if_neg z, if_neg z]
      exact ih (k + 1) _ _ (by omega)
theorem s215 {d : Nat} (h : 2 ≤ d) {σ : HP} {L : LB} (hy : Lay σ) (hq : wdR σ L) (hw : wf0 L) (hb : lpB L = true) {x : Nat} (hx : x < 8) : clR PG0 MX d 215 [vR 101, vI x] σ = some (shfF L x (lT L).length 0, σ) := by
  obtain ⟨d, rfl⟩ := ob1 (show 1 ≤ d by omega)
  rw [ce_215, sg_215_0]
  exact s215l (d := d) (by omega) hy hq hw hb hx (lT L).length 0 _ _ (by omega)
/-- shift -/
theorem m235 (S : AS) {s x : Int} (hs : i32 s) (hx : i32 x) : mOp 235 [vI s, vI x] S (qA S s (shfQ x), S) := by
  intro d σ h hy ht hm
  obtain ⟨d, rfl⟩ := ob1 (show 1 ≤ d by omega)
  have y1 := hy.1; have k101 := y101_m1 hy; have p102 := y101_0 hy; have k102 := y102_m1 hy; have l102 := y102_m2 hy; have p107 := y101_15 hy; have k107 := y107_m1 hy; have l107 := y107_m2 hy; have p108 := y101_16 hy; have k108 := y108_m1 hy; have l108 := y108_m2 hy
  unfold qA
  cases e : gl S s with
  | none =>
    refine ⟨σ, ?_, (FM.rf hy).fl, hm⟩
    rw [ce_235, sg_235_0]
    repeat (first | refine step_t (by with_reducible exact True.intro) ?_ | refine step_t (by omega) ?_ | refine step_f (by omega) ?_)
    refine step_c (s224n (by omega) hy hm hs hx e) ?_
    try dsimp only
    (try simp (disch := omega) only [wr_id2])
    repeat (first | refine step_t (by with_reducible exact True.intro) ?_ | refine step_t (by omega) ?_ | refine step_f (by omega) ?_)
    rfl
  | some L =>
    have e180 := s224s (d := d) (by omega) hy hm hs hx e
    obtain ⟨n, rfl, hn, hr, hw, en⟩ := hm.got e
    have hl := wf_len hw.1
    have h9 := hw.1.1
    have h1N := hw.2.1
    have hp8 := pow8 hw.1.1
    have hp0 := Nat.two_pow_pos (lN0 L)
    have hsh := shN_le L
    dsimp only
    unfold shfQ
    by_cases z : 0 ≤ x ∧ x < lN0 L
    · rw [decide_eq_true z] at e180
      rw [if_pos z]
      obtain ⟨σ1, k1, k2, k3, k4⟩ := s203 (d := d) (by omega) hy hn hr hw.1
      have hy1 := k2.2
      have y1b := hy1.1; have k101b := y101_m1 hy1
      have q4 := k4.2.2.2
      refine ⟨σ1, ?_, k2.ml, k2.mr hm⟩
      rw [ce_235, sg_235_0]
      repeat (first | refine step_t (by with_reducible exact True.intro) ?_ | refine step_t (by omega) ?_ | refine step_f (by omega) ?_)
      refine step_c (e180) ?_
      try dsimp only
      rw [wr_b2i]
      refine step_t (show b2i true ≠ 0 by decide) ?_
      repeat (first | refine step_t (by with_reducible exact True.intro) ?_ | refine step_t (by omega) ?_ | refine step_f (by omega) ?_)
      refine step_c (k1) ?_
      try dsimp only
      (try simp (disch := omega) only [q4, wr_b2i, wr_id2])
      repeat (first | refine step_t (by with_reducible exact True.intro) ?_ | refine step_t (by omega) ?_ | refine step_f (by omega) ?_)
      unfold shfN
      cases hb : lpB L with
      | false =>
        refine step_t (show b2i false = 0 by decide) ?_
        rw [if_neg (by decide)]
      | true =>
        refine step_f (show ¬ (b2i true = 0) by decide) ?_
        rw [if_pos rfl]
        repeat (first | refine step_t (by with_reducible exact True.intro) ?_ | refine step_t (by omega) ?_ | refine step_f (by omega) ?_)
        have e9 := s215 (d := d) (by omega) hy1 k4 hw.1 hb (x := x.toNat) (by omega)
        rw [show ((x.toNat : Nat) : Int) = x by omega] at e9
        refine step_c (e9) ?_
        try dsimp only
    · rw [decide_eq_false z] at e180
      rw [if_neg z]
      refine ⟨σ, ?_, (FM.rf hy).fl, hm⟩
      rw [ce_235, sg_235_0]
      repeat (first | refine step_t (by with_reducible exact True.intro) ?_ | refine step_t (by omega) ?_ | refine step_f (by omega) ?_)
      refine step_c (e180) ?_
      try dsimp only
      rw [wr_b2i]
      refine step_f (show ¬ (b2i false ≠ 0) by decide) ?_
      rfl
/-- apart -/
theorem m236 (S : AS) {s x y : Int} (hs : i32 s) (hx : i32 x) (hv : i32 y) : mOp 236 [vI s, vI x, vI y] S (qA S s (aptQ x y), S) := by
  intro d σ h hy ht hm
  obtain ⟨d, rfl⟩ := ob1 (show 1 ≤ d by omega)
  have y1 := hy.1; have k101 := y101_m1 hy; have p102 := y101_0 hy; have k102 := y102_m1 hy; have l102 := y102_m2 hy; have p107 := y101_15 hy; have k107 := y107_m1 hy; have l107 := y107_m2 hy; have p108 := y101_16 hy; have k108 := y108_m1 hy; have l108 := y108_m2 hy
  unfold qA
  cases e : gl S s with
  | none =>
    refine ⟨σ, ?_, (FM.rf hy).fl, hm⟩
    rw [ce_236, sg_236_0]
    repeat (first | refine step_t (by with_reducible exact True.intro) ?_ | refine step_t (by omega) ?_ | refine step_f (by omega) ?_)
    refine step_c (s180n (by omega) hy hm hs e) ?_
    try dsimp only
    (try simp (disch := omega) only [wr_id2])
    repeat (first | refine step_t (by with_reducible exact True.intro) ?_ | refine step_t (by omega) ?_ | refine step_f (by omega) ?_)
    rw [sg_236_38]
  | some L =>
    have e180 := s180s (d := d) (by omega) hy hm hs e
    obtain ⟨n, rfl, hn, hr, hw, en⟩ := hm.got e
    have hl := wf_len hw.1
    have e204 := s204 (d := d) (by omega) hy hn hr
    have e1 := s179 (d := d) (by omega) σ hx (y := 0) (z := ((lT L).length : Nat)) ⟨by decide, by decide⟩ (i32_n (by omega))
    have e2 := s179 (d := d) (by omega) σ hv (y := 0) (z := ((lT L).length : Nat)) ⟨by decide, by decide⟩ (i32_n (by omega))
    have wx := hx.wr
    have wv := hv.wr
    dsimp only
    unfold aptQ
    by_cases z : 0 ≤ x ∧ x ≤ (lT L).length
    · rw [decide_eq_true z] at e1
      rw [if_pos z]
      by_cases z2 : 0 ≤ y ∧ y ≤ (lT L).length
      · rw [decide_eq_true z2] at e2
        rw [if_pos z2]
        obtain ⟨σ1, k1, k2, k3, k4⟩ := s203 (d := d) (by omega) hy hn hr hw.1
        have hy1 := k2.2
        have y1b := hy1.1; have k101b := y101_m1 hy1; have p107b := y101_15 hy1; have k107b := y107_m1 hy1; have l107b := y107_m2 hy1
        have w1 := k4.1 x.toNat (by omega)
        have w2 := k4.1 y.toNat (by omega)
        rw [show ((x.toNat : Nat) : Int) = x by omega] at w1
        rw [show ((y.toNat : Nat) : Int) = y by omega] at w2
        have v1 := wd_256 hw.1 x.toNat
        have v2 := wd_256 hw.1 y.toNat
        have v3 := xor_256 v1 v2
        refine ⟨σ1, ?_, k2.ml, k2.mr hm⟩
        rw [ce_236, sg_236_0]
        repeat (first | refine step_t (by with_reducible exact True.intro) ?_ | refine step_t (by omega) ?_ | refine step_f (by omega) ?_)
        refine step_c (e180) ?_
        try dsimp only
        (try simp (disch := omega) only [wr_id2])
        repeat (first | refine step_t (by with_reducible exact True.intro) ?_ | refine step_t (by omega) ?_ | refine step_f (by omega) ?_)
        refine step_c (e204) ?_
        try dsimp only
        (try simp (disch := omega) only [wx, wv, wr_id2])
        refine step_c (e1) ?_
        try dsimp only
        rw [wr_b2i]
        refine step_f (show ¬ (b2i true = 0) by decide) ?_
        repeat (first | refine step_t (by with_reducible exact True.intro) ?_ | refine step_t (by omega) ?_ | refine step_f (by omega) ?_)
        refine step_c (e204) ?_
        try dsimp only
        (try simp (disch := omega) only [wx, wv, wr_id2])
        refine step_c (e2) ?_
        try dsimp only
        rw [wr_b2i]
        refine step_t (show b2i true ≠ 0 by decide) ?_
        rw [sg_236_41]
        repeat (first | refine step_t (by with_reducible exact True.intro) ?_ | refine step_t (by omega) ?_ | refine step_f (by omega) ?_)
        refine step_c (k1) ?_
        try dsimp only
        (try simp (disch := omega) only [p107b, wx, wv, w1, w2, i_xor_n (a := wd L x.toNat) (b := wd L y.toNat) (by omega) (by omega), wr_id2])
        repeat (first | refine step_t (by with_reducible exact True.intro) ?_ | refine step_t (by omega) ?_ | refine step_f (by omega) ?_)
        refine step_c (s209 (by omega) σ1 (x := wd L x.toNat ^^^ wd L y.toNat) (by omega)) ?_
        try dsimp only
      · rw [decide_eq_false z2] at e2
        rw [if_neg z2]
        refine ⟨σ, ?_, (FM.rf hy).fl, hm⟩
        rw [ce_236, sg_236_0]
        repeat (first | refine step_t (by with_reducible exact True.intro) ?_ | refine step_t (by omega) ?_ | refine step_f (by omega) ?_)
        refine step_c (e180) ?_
        try dsimp only
        (try simp (disch := omega) only [wr_id2])
        repeat (first | refine step_t (by with_reducible exact True.intro) ?_ | refine step_t (by omega) ?_ | refine step_f (by omega) ?_)
        refine step_c (e204) ?_
        try dsimp only
        (try simp (disch := omega) only [wx, wv, wr_id2])
        refine step_c (e1) ?_
        try dsimp only
        rw [wr_b2i]
        refine step_f (show ¬ (b2i true = 0) by decide) ?_
        repeat (first | refine step_t (by with_reducible exact True.intro) ?_ | refine step_t (by omega) ?_ | refine step_f (by omega) ?_)
        refine step_c (e204) ?_
        try dsimp only
        (try simp (disch := omega) only [wx, wv, wr_id2])
        refine step_c (e2) ?_
        try dsimp only
        rw [wr_b2i]
        refine step_f (show ¬ (b2i false ≠ 0) by decide) ?_
        rw [sg_236_38]
    · rw [decide_eq_false z] at e1
      rw [if_neg z]
      refine ⟨σ, ?_, (FM.rf hy).fl, hm⟩
      rw [ce_236, sg_236_0]
      repeat (first | refine step_t (by with_reducible exact True.intro) ?_ | refine step_t (by omega) ?_ | refine step_f (by omega) ?_)
      refine step_c (e180) ?_
      try dsimp only
      (try simp (disch := omega) only [wr_id2])
      repeat (first | refine step_t (by with_reducible exact True.intro) ?_ | refine step_t (by omega) ?_ | refine step_f (by omega) ?_)
      refine step_c (e204) ?_
      try dsimp only
      (try simp (disch := omega) only [wx, wv, wr_id2])
      refine step_c (e1) ?_
      try dsimp only
      rw [wr_b2i]
      refine step_t (show b2i false = 0 by decide) ?_
      rw [sg_236_38]
/-- code, rank, ruler -/
theorem m240 (S : AS) {x : Int} (hx : i32 x) : mOp 240 [vI x] S (codA x, S) := by
  intro d σ h hy ht hm
  obtain ⟨d, rfl⟩ := ob1 (show 1 ≤ d by omega)
  have x1 := hx.1
  have x2 := hx.2
  refine ⟨σ, ?_, (FM.rf hy).fl, hm⟩
  unfold codA
  rw [ce_240, sg_240_0]
  (try simp (disch := omega) only [wr_id2])
  refine step_i (fun q => ?_) (fun q => ?_)
  · rw [if_pos q]
  · rw [if_neg q]
theorem s241l {d : Nat} {σ : HP} : ∀ (m x a : Nat) (u0 u1 : MV), x < 2 ^ m → m ≤ 31 → a < 2147483648 → rsP PG0 MX d 241 11 [u0, u1, vI a, vI x] [] σ = some (((a ^^^ xsN m x : Nat) : Int), σ) := by
  intro m
  induction m with
  | zero =>
    intro x a u0 u1 hx hm ha
    have : x = 0 := by simpa using hx
    subst this
    rw [sg_241_11]
    refine step_t (show wr ((0 : Nat) : Int) = 0 by decide) ?_
    show some ((a : Int), σ) = some (((a ^^^ 0 : Nat) : Int), σ)
    rw [Nat.xor_zero]
  | succ m ih =>
    intro x a u0 u1 hx hm ha
    have hp : 2 ^ (m + 1) ≤ 2 ^ 31 := Nat.pow_le_pow_right (by omega) hm
    have hx31 : x < 2147483648 := Nat.lt_of_lt_of_le hx hp
    by_cases z : x = 0
    · subst z
      rw [sg_241_11, xsN_z, Nat.xor_zero]
      refine step_t (show wr ((0 : Nat) : Int) = 0 by decide) ?_
      rfl
    · have e1 : i_shr (x : Int) 1 = ((x / 2 ^ 1 : Nat) : Int) := i_shr_n (k := 1) (by omega) hx31
      have e2 := ih (x / 2) (a ^^^ x) vU vU (by rw [Nat.pow_succ] at hx; omega) (by omega) (Nat.xor_lt_two_pow (n := 31) ha hx31)
      rw [sg_241_11]
      (try simp (disch := omega) only [e1, i_xor_n (a := a) (b := x) (by omega) (by omega), wr_id2])
      repeat (first | refine step_t (by with_reducible exact True.intro) ?_ | refine step_t (by omega) ?_ | refine step_f (by omega) ?_)
      show _ = some (((a ^^^ (x ^^^ xsN m (x / 2)) : Nat) : Int), σ)
      rw [← Nat.xor_assoc]
      exact e2
theorem xsN_32 (x : Nat) (hx : x < 2147483648) : xsN 32 x = xsN 31 x := by
  rw [show (32 : Nat) = 31 + 1 from rfl, xsN_add, Nat.div_eq_of_lt (by exact hx), xsN_z, Nat.xor_zero]
theorem m241 (S : AS) {x : Int} (hx : i32 x) : mOp 241 [vI x] S (rnkA x, S) := by
  intro d σ h hy ht hm
  obtain ⟨d, rfl⟩ := ob1 (show 1 ≤ d by omega)
  have x1 := hx.1
  have x2 := hx.2
  refine ⟨σ, ?_, (FM.rf hy).fl, hm⟩
  unfold rnkA
  rw [ce_241, sg_241_0]
  (try simp (disch := omega) only [wr_id2])
  refine step_i (fun q => ?_) (fun q => ?_)
  · rw [if_pos q]
    have e := s241l (d := d) (σ := σ) 31 x.toNat 0 (vR 101) (vI x) (by show x.toNat < 2147483648; omega) (by omega) (by omega)
    rw [show ((x.toNat : Nat) : Int) = x by omega, Nat.zero_xor] at e
    rw [xsN_32 _ (by omega)]
    exact e
  · rw [if_neg q]
theorem m242 (S : AS) {x : Int} (hx : i32 x) : mOp 242 [vI x] S (rulA x, S) := by
  intro d σ h hy ht hm
  obtain ⟨d, rfl⟩ := ob1 (show 1 ≤ d by omega)
  have x1 := hx.1
  have x2 := hx.2
  refine ⟨σ, ?_, (FM.rf hy).fl, hm⟩
  unfold rulA
  rw [ce_242, sg_242_0]
  (try simp (disch := omega) only [wr_id2])
  refine step_i (fun q => ?_) (fun q => ?_)
  · rw [if_pos q]
    have e := s243 (d := d) (by omega) σ (x := x.toNat) (by omega) (by omega)
    rw [show ((x.toNat : Nat) : Int) = x by omega] at e
    refine step_c (e) ?_
    try dsimp only
  · rw [if_neg q]
/-- isMonotone -/
theorem s210l {d : Nat} (h : 6 ≤ d) {σ : HP} {n : Nat} {L : LB} (hy : Lay σ) (hn : n < 3) (hr : slR σ n L) (hq : wdR σ L) (hw : wf0 L) : ∀ (m i x : Nat) (u : MV), i + m = (lT L).length → x ≤ 8 → rsP PG0 MX d 210 9 [vR 101, vI n, vI x, vI i, u] [] σ = some (b2i (monF L m i x), σ) := by
  have y1 := hy.1; have k101 := y101_m1 hy; have p107 := y101_15 hy; have k107 := y107_m1 hy; have l107 := y107_m2 hy
  have hl := wf_len hw
  have e204 := s204 (d := d) (by omega) hy hn hr
  obtain ⟨q1, q2, q3, q4⟩ := hq
  intro m
  induction m with
  | zero =>
    intro i x u hi hx
    rw [sg_210_9]
    repeat (first | refine step_t (by with_reducible exact True.intro) ?_ | refine step_t (by omega) ?_ | refine step_f (by omega) ?_)
    refine step_c (e204) ?_
    try dsimp only
    (try simp (disch := omega) only [wr_id2])
    repeat (first | refine step_t (by with_reducible exact True.intro) ?_ | refine step_t (by omega) ?_ | refine step_f (by omega) ?_)
    rfl
  | succ m ih =>
    intro i x u hi hx
    have w1 := wd_256 hw i
    have w2 := wd_256 hw (i + 1)
    have e1 := q1 i (by omega)
    have e2 := q1 (i + 1) (by omega)
    rw [show ((i + 1 : Nat) : Int) = (i : Int) + 1 by omega] at e2
    have p1 := pop_le _ w1
    have p2 := pop_le _ w2
    have r8 := rung_8 hw i
    have em : (if ((pop (wd L (i + 1)) : Nat) : Int) < ((pop (wd L i) : Nat) : Int) then ((pop (wd L (i + 1)) : Nat) : Int) else ((pop (wd L i) : Nat) : Int)) = ((rung L i : Nat) : Int) := by
      unfold rung
      by_cases z : pop (wd L (i + 1)) < pop (wd L i)
      · rw [if_pos (by omega), Nat.min_eq_right (by omega)]
      · rw [if_neg (by omega), Nat.min_eq_left (by omega)]
    rw [sg_210_9]
    repeat (first | refine step_t (by with_reducible exact True.intro) ?_ | refine step_t (by omega) ?_ | refine step_f (by omega) ?_)
    refine step_c (e204) ?_
    try dsimp only
    (try simp (disch := omega) only [p107, e1, wr_id2])
    repeat (first | refine step_t (by with_reducible exact True.intro) ?_ | refine step_t (by omega) ?_ | refine step_f (by omega) ?_)
    refine step_c (s209 (by omega) σ (x := wd L i) (by omega)) ?_
    try dsimp only
    (try simp (disch := omega) only [p107, e2, wr_id2])
    repeat (first | refine step_t (by with_reducible exact True.intro) ?_ | refine step_t (by omega) ?_ | refine step_f (by omega) ?_)
    refine step_c (s209 (by omega) σ (x := wd L (i + 1)) (by omega)) ?_
    try dsimp only
    refine step_c (p_min (by omega) σ _ _) ?_
    try dsimp only
    (try simp (disch := omega) only [em, wr_id2])
    rw [sg_210_43]
    (try simp (disch := omega) only [wr_id2])
    unfold monF
    refine step_i (fun g => ?_) (fun g => ?_)
    · rw [if_pos (by omega)]
      refine step_c (p_max (by omega) σ _ _) ?_
      try dsimp only
      (try simp (disch := omega) only [wr_id2])
      have ex : (if (x : Int) < ((rung L i : Nat) : Int) then ((rung L i : Nat) : Int) else (x : Int)) = ((max x (rung L i) : Nat) : Int) := by
        by_cases z : x < rung L i
        · rw [if_pos (by omega), Nat.max_eq_right (by omega)]
        · rw [if_neg (by omega), Nat.max_eq_left (by omega)]
      rw [ex]
      exact ih (i + 1) (max x (rung L i)) _ (by omega) (by omega)
    · rw [if_neg (by omega)]
      rfl
/-- isFull -/
theorem s206l {d : Nat} (h : 2 ≤ d) {σ : HP} {n : Nat} {L : LB} (hy : Lay σ) (hn : n < 3) (hr : slR σ n L) (hq : wdR σ L) (hw : wf0 L) : ∀ (m w : Nat), w + m = 2 ^ lN0 L → rsP PG0 MX d 206 7 [vR 101, vI n, vI w] [] σ = some (b2i (fulF L m w), σ) := by
  have y1 := hy.1; have k101 := y101_m1 hy; have p108 := y101_16 hy; have k108 := y108_m1 hy; have l108 := y108_m2 hy
  have h8 := pow8 hw.1
  have h9 := hw.1
  have hs := shN_le L
  have hl := wf_len hw
  have e207 := s207 (d := d) (by omega) hy hn hr
  obtain ⟨q1, q2, q3, q4⟩ := hq
  intro m
  induction m with
  | zero =>
    intro w hi
    rw [sg_206_7]
    repeat (first | refine step_t (by with_reducible exact True.intro) ?_ | refine step_t (by omega) ?_ | refine step_f (by omega) ?_)
    refine step_c (e207) ?_
    try dsimp only
    rw [shl1 (show lN0 L < 31 by omega)]
    (try simp (disch := omega) only [wr_id2])
    repeat (first | refine step_t (by with_reducible exact True.intro) ?_ | refine step_t (by omega) ?_ | refine step_f (by omega) ?_)
    rfl
  | succ m ih =>
    intro w hi
    have e208 := s208 (d := d) (by omega) hy hn hr hw (x := w) (by omega)
    have e2 := q2 w (by omega)
    have e3 : cW L w ≤ shN L := cwN_le L w _
    rw [sg_206_7]
    repeat (first | refine step_t (by with_reducible exact True.intro) ?_ | refine step_t (by omega) ?_ | refine step_f (by omega) ?_)
    refine step_c (e207) ?_
    try dsimp only
    rw [shl1 (show lN0 L < 31 by omega)]
    (try simp (disch := omega) only [p108, e2, wr_id2])
    repeat (first | refine step_t (by with_reducible exact True.intro) ?_ | refine step_t (by omega) ?_ | refine step_f (by omega) ?_)
    refine step_c (e208) ?_
    try dsimp only
    rw [wr_b2i]
    unfold fulF
    cases hI : inSc L w with
    | false =>
      refine step_t (show b2i false = 0 by decide) ?_
      rw [sg_206_38]
      (try simp (disch := omega) only [wr_id2])
      refine step_i (fun g => ?_) (fun g => ?_)
      · rw [if_pos (show cW L w = (bif false then 1 else 0) by show cW L w = 0; omega)]
        exact ih (w + 1) (by omega)
      · rw [if_neg (show ¬ cW L w = (bif false then 1 else 0) by show ¬ cW L w = 0; omega)]
        rfl
    | true =>
      refine step_f (show ¬ (b2i true = 0) by decide) ?_
      rw [sg_206_38]
      (try simp (disch := omega) only [wr_id2])
      refine step_i (fun g => ?_) (fun g => ?_)
      · rw [if_pos (show cW L w = (bif true then 1 else 0) by show cW L w = 1; omega)]
        exact ih (w + 1) (by omega)
      · rw [if_neg (show ¬ cW L w = (bif true then 1 else 0) by show ¬ cW L w = 1; omega)]
        rfl
theorem s206 {d : Nat} (h : 4 ≤ d) {σ : HP} {n : Nat} {L : LB} (hy : Lay σ) (hn : n < 3) (hr : slR σ n L) (hw : wf0 L) : ∃ σ', clR PG0 MX d 206 [vR 101, vI n] σ = some (b2i (fulB L), σ') ∧ FQ σ σ' ∧ slR σ' n L ∧ wdR σ' L := by
  obtain ⟨d, rfl⟩ := ob1 (show 1 ≤ d by omega)
  have y1 := hy.1; have k101 := y101_m1 hy
  obtain ⟨σ1, k1, k2, k3, k4⟩ := s203 (d := d) (by omega) hy hn hr hw
  refine ⟨σ1, ?_, k2, k3, k4⟩
  rw [ce_206, sg_206_0]
  repeat (first | refine step_t (by with_reducible exact True.intro) ?_ | refine step_t (by omega) ?_ | refine step_f (by omega) ?_)
  refine step_c (k1) ?_
  try dsimp only
  exact s206l (d := d) (by omega) k2.2 hn k3 k4 hw (2 ^ lN0 L) 0 (by omega)
/-- isOpposite -/
theorem s213l {d : Nat} (h : 2 ≤ d) {σ : HP} {n : Nat} {L : LB} (hy : Lay σ) (hn : n < 3) (hr : slR σ n L) (hq : wdR σ L) (hw : wf0 L) (hb : lpB L = true) : ∀ (m i : Nat), i + m = (lT L).length / 2 → rsP PG0 MX d 213 26 [vR 101, vI n, vI i] [] σ = some (b2i (oppF L ((lT L).length / 2) m i), σ) := by
  have y1 := hy.1; have k101 := y101_m1 hy; have p107 := y101_15 hy; have k107 := y107_m1 hy; have l107 := y107_m2 hy
  have h8 := pow8 hw.1
  have h9 := hw.1
  have hp0 := Nat.two_pow_pos (lN0 L)
  have hl := wf_len hw
  have e207 := s207 (d := d) (by omega) hy hn hr
  obtain ⟨q1, q2, q3, q4⟩ := hq
  rw [shN_lp hb] at q3
  have ed : i_div ((lT L).length : Nat) 2 = (((lT L).length / 2 : Nat) : Int) := i_div_n (b := 2) (by omega) (by omega) (by omega)
  intro m
  induction m with
  | zero =>
    intro i hi
    rw [sg_213_26]
    (try simp (disch := omega) only [q3, ed, wr_id2])
    repeat (first | refine step_t (by with_reducible exact True.intro) ?_ | refine step_t (by omega) ?_ | refine step_f (by omega) ?_)
    rfl
  | succ m ih =>
    intro i hi
    have w1 := wd_256 hw i
    have w2 := wd_256 hw (i + (lT L).length / 2)
    have w3 := xor_256 w1 w2
    have e1 := q1 i (by omega)
    have e2 := q1 (i + (lT L).length / 2) (by omega)
    rw [show ((i + (lT L).length / 2 : Nat) : Int) = (i : Int) + (((lT L).length / 2 : Nat) : Int) by omega] at e2
    rw [sg_213_26]
    (try simp (disch := omega) only [q3, ed, p107, e1, e2, wr_id2])
    repeat (first | refine step_t (by with_reducible exact True.intro) ?_ | refine step_t (by omega) ?_ | refine step_f (by omega) ?_)
    refine step_c (e207) ?_
    try dsimp only
    rw [shl1 (show lN0 L < 31 by omega), i_xor_n (a := wd L i) (b := wd L (i + (lT L).length / 2)) (by omega) (by omega)]
    (try simp (disch := omega) only [wr_id2])
    unfold oppF
    refine step_i (fun g => ?_) (fun g => ?_)
    · rw [if_pos (by omega)]
      exact ih (i + 1) (by omega)
    · rw [if_neg (by omega)]
      rfl
theorem s213 {d : Nat} (h : 4 ≤ d) {σ : HP} {n : Nat} {L : LB} (hy : Lay σ) (hn : n < 3) (hr : slR σ n L) (hw : wf0 L) : ∃ σ', clR PG0 MX d 213 [vR 101, vI n] σ = some (b2i (oppB L), σ') ∧ FQ σ σ' := by
  obtain ⟨d, rfl⟩ := ob1 (show 1 ≤ d by omega)
  have y1 := hy.1; have k101 := y101_m1 hy
  have hl := wf_len hw
  obtain ⟨σ1, k1, k2, k3, k4⟩ := s203 (d := d) (by omega) hy hn hr hw
  have hy1 := k2.2
  have y1b := hy1.1; have k101b := y101_m1 hy1
  obtain ⟨q1, q2, q3, q4⟩ := id k4
  refine ⟨σ1, ?_, k2⟩
  rw [ce_213, sg_213_0]
  repeat (first | refine step_t (by with_reducible exact True.intro) ?_ | refine step_t (by omega) ?_ | refine step_f (by omega) ?_)
  refine step_c (k1) ?_
  try dsimp only
  unfold oppB
  cases hb : lpB L with
  | false =>
    rw [hb] at q4
    (try simp (disch := omega) only [q4, wr_id2])
    repeat (first | refine step_t (by with_reducible exact True.intro) ?_ | refine step_t (by omega) ?_ | refine step_f (by omega) ?_)
    refine step_t (show wr (b2i false) = 0 by decide) ?_
    rfl
  | true =>
    rw [hb] at q4
    rw [shN_lp hb] at q3
    have er : i_rem ((lT L).length : Nat) 2 = (((lT L).length % 2 : Nat) : Int) := i_rem_n (b := 2) (by omega) (by omega) (by omega)
    (try simp (disch := omega) only [q4, q3, er, wr_id2])
    repeat (first | refine step_t (by with_reducible exact True.intro) ?_ | refine step_t (by omega) ?_ | refine step_f (by omega) ?_)
    refine step_f (show ¬ wr (b2i true) = 0 by decide) ?_
    repeat (first | refine step_t (by with_reducible exact True.intro) ?_ | refine step_t (by omega) ?_ | refine step_f (by omega) ?_)
    by_cases z : (lT L).length % 2 = 0
    · rw [decide_eq_true z]
      refine step_t (by omega) ?_
      have e := s213l (d := d) (by omega) hy1 hn k3 k4 hw hb ((lT L).length / 2) 0 (by omega)
      rw [Bool.true_and, Bool.true_and]
      exact e
    · rw [decide_eq_false z]
      refine step_f (by omega) ?_
      rfl
/-- isOneTrack -/
theorem s214l {d : Nat} (h : 2 ≤ d) {σ : HP} {n : Nat} {L : LB} (hy : Lay σ) (hn : n < 3) (hr : slR σ n L) (hq : wdR σ L) (hw : wf0 L) (hb : lpB L = true) : ∀ (m x : Nat), x + m = lN0 L → rsP PG0 MX d 214 7 [vR 101, vI n, vI x] [] σ = some (b2i (oneF L m x), σ) := by
  have y1 := hy.1; have k101 := y101_m1 hy
  have h9 := hw.1
  have hl := wf_len hw
  have e207 := s207 (d := d) (by omega) hy hn hr
  have q4 := hq.2.2.2
  rw [hb] at q4
  intro m
  induction m with
  | zero =>
    intro x hx
    rw [sg_214_7]
    repeat (first | refine step_t (by with_reducible exact True.intro) ?_ | refine step_t (by omega) ?_ | refine step_f (by omega) ?_)
    refine step_c (e207) ?_
    try dsimp only
    (try simp (disch := omega) only [wr_id2])
    repeat (first | refine step_t (by with_reducible exact True.intro) ?_ | refine step_t (by omega) ?_ | refine step_f (by omega) ?_)
    rfl
  | succ m ih =>
    intro x hx
    have e215 := s215 (d := d) (by omega) hy hq hw hb (x := x) (by omega)
    have en : shfN L x = shfF L x (lT L).length 0 := by unfold shfN; rw [if_pos hb]
    rw [← en] at e215
    have hbd := shfN_b L x
    rw [sg_214_7]
    repeat (first | refine step_t (by with_reducible exact True.intro) ?_ | refine step_t (by omega) ?_ | refine step_f (by omega) ?_)
    refine step_c (e207) ?_
    try dsimp only
    (try simp (disch := omega) only [q4, wr_id2])
    repeat (first | refine step_t (by with_reducible exact True.intro) ?_ | refine step_t (by omega) ?_ | refine step_f (by omega) ?_)
    refine step_f (show ¬ wr (b2i true) = 0 by decide) ?_
    repeat (first | refine step_t (by with_reducible exact True.intro) ?_ | refine step_t (by omega) ?_ | refine step_f (by omega) ?_)
    refine step_c (e215) ?_
    try dsimp only
    (try simp (disch := omega) only [wr_id2])
    unfold oneF
    refine step_i (fun g => ?_) (fun g => ?_)
    · rw [if_neg (by omega)]
      exact ih (x + 1) (by omega)
    · rw [if_pos (by omega)]
      rfl
theorem s214 {d : Nat} (h : 4 ≤ d) {σ : HP} {n : Nat} {L : LB} (hy : Lay σ) (hn : n < 3) (hr : slR σ n L) (hw : wf0 L) (h1 : 1 ≤ lN0 L) : ∃ σ', clR PG0 MX d 214 [vR 101, vI n] σ = some (b2i (oneB L), σ') ∧ FQ σ σ' := by
  obtain ⟨d, rfl⟩ := ob1 (show 1 ≤ d by omega)
  have y1 := hy.1; have k101 := y101_m1 hy
  have h9 := hw.1
  obtain ⟨σ1, k1, k2, k3, k4⟩ := s203 (d := d) (by omega) hy hn hr hw
  have hy1 := k2.2
  have y1b := hy1.1; have k101b := y101_m1 hy1
  refine ⟨σ1, ?_, k2⟩
  rw [ce_214, sg_214_0]
  repeat (first | refine step_t (by with_reducible exact True.intro) ?_ | refine step_t (by omega) ?_ | refine step_f (by omega) ?_)
  refine step_c (k1) ?_
  try dsimp only
  unfold oneB
  cases hb : lpB L with
  | false =>
    have q4 := k4.2.2.2
    rw [hb] at q4
    have e207 := s207 (d := d) (by omega) hy1 hn k3
    rw [sg_214_7]
    repeat (first | refine step_t (by with_reducible exact True.intro) ?_ | refine step_t (by omega) ?_ | refine step_f (by omega) ?_)
    refine step_c (e207) ?_
    try dsimp only
    (try simp (disch := omega) only [q4, wr_id2])
    repeat (first | refine step_t (by with_reducible exact True.intro) ?_ | refine step_t (by omega) ?_ | refine step_f (by omega) ?_)
    refine step_t (show wr (b2i false) = 0 by decide) ?_
    rfl
  | true =>
    rw [Bool.true_and]
    exact s214l (d := d) (by omega) hy1 hn k3 k4 hw hb (lN0 L) 0 (by omega)
/-- open -/
theorem s258l {d : Nat} (h : 2 ≤ d) {σ : HP} {n : Nat} {L : LB} (hy : Lay σ) (hn : n < 3) (hr : slR σ n L) (hq : wdR σ L) (hw : wf0 L) : ∀ (m x a : Nat) (u : MV), x + m = lN0 L → a < 256 → rsP PG0 MX d 258 20 [vR 101, vI n, vI a, vI x, u] [] σ = some (((opnF L m x a : Nat) : Int), σ) := by
  have y1 := hy.1; have k101 := y101_m1 hy; have p107 := y101_15 hy; have k107 := y107_m1 hy; have l107 := y107_m2 hy; have p108 := y101_16 hy; have k108 := y108_m1 hy; have l108 := y108_m2 hy
  have h9 := hw.1
  have hl := wf_len hw
  have hs := shN_le L
  have e207 := s207 (d := d) (by omega) hy hn hr
  have e204 := s204 (d := d) (by omega) hy hn hr
  obtain ⟨q1, q2, q3, q4⟩ := hq
  intro m
  induction m with
  | zero =>
    intro x a u hx ha
    rw [sg_258_20]
    repeat (first | refine step_t (by with_reducible exact True.intro) ?_ | refine step_t (by omega) ?_ | refine step_f (by omega) ?_)
    refine step_c (e207) ?_
    try dsimp only
    (try simp (disch := omega) only [wr_id2])
    repeat (first | refine step_t (by with_reducible exact True.intro) ?_ | refine step_t (by omega) ?_ | refine step_f (by omega) ?_)
    rfl
  | succ m ih =>
    intro x a u hx ha
    have w1 := wd_256 hw (lT L).length
    have q2p := p256 (x := x) (by omega)
    have w3 := xor_256 w1 q2p
    have e1 := q1 (lT L).length (Nat.le_refl _)
    have e2 := q2 (wd L (lT L).length ^^^ 2 ^ x) w3
    have e3 : cW L (wd L (lT L).length ^^^ 2 ^ x) ≤ shN L := cwN_le L _ _
    have e208 := s208 (d := d) (by omega) hy hn hr hw (x := wd L (lT L).length ^^^ 2 ^ x) (by omega)
    have or0 : i_or (a : Int) 0 = (a : Nat) := by
      have := i_or_n (a := a) (b := 0) (by omega) (by omega)
      rw [Nat.or_zero] at this
      exact this
    have hor : a ||| 2 ^ x < 256 := Nat.or_lt_two_pow (n := 8) ha q2p
    rw [sg_258_20]
    repeat (first | refine step_t (by with_reducible exact True.intro) ?_ | refine step_t (by omega) ?_ | refine step_f (by omega) ?_)
    refine step_c (e207) ?_
    try dsimp only
    (try simp (disch := omega) only [p107, wr_id2])
    repeat (first | refine step_t (by with_reducible exact True.intro) ?_ | refine step_t (by omega) ?_ | refine step_f (by omega) ?_)
    refine step_c (e204) ?_
    try dsimp only
    (try simp (disch := omega) only [p107, e1, shl1 (x := x) (by omega), i_xor_n (a := wd L (lT L).length) (b := 2 ^ x) (by omega) (by omega), wr_id2])
    repeat (first | refine step_t (by with_reducible exact True.intro) ?_ | refine step_t (by omega) ?_ | refine step_f (by omega) ?_)
    refine step_c (e208) ?_
    try dsimp only
    rw [wr_b2i]
    unfold opnF opnB
    cases hI : inSc L (wd L (lT L).length ^^^ 2 ^ x) with
    | false =>
      refine step_t (show b2i false = 0 by decide) ?_
      rw [or0, Bool.and_false]
      exact ih (x + 1) a _ (by omega) ha
    | true =>
      refine step_f (show ¬ (b2i true = 0) by decide) ?_
      (try simp (disch := omega) only [p108, e2, wr_id2])
      repeat (first | refine step_t (by with_reducible exact True.intro) ?_ | refine step_t (by omega) ?_ | refine step_f (by omega) ?_)
      refine step_i (fun g => ?_) (fun g => ?_)
      · rw [or0, decide_eq_false (by omega)]
        exact ih (x + 1) a _ (by omega) ha
      · rw [i_or_n (a := a) (b := 2 ^ x) (by omega) (by omega), decide_eq_true (by omega)]
        exact ih (x + 1) (a ||| 2 ^ x) _ (by omega) hor
theorem m258 (S : AS) {s : Int} (hs : i32 s) : mOp 258 [vI s] S (qA S s opnQ, S) := by
  intro d σ h hy ht hm
  obtain ⟨d, rfl⟩ := ob1 (show 1 ≤ d by omega)
  have y1 := hy.1; have k101 := y101_m1 hy; have p102 := y101_0 hy; have k102 := y102_m1 hy; have l102 := y102_m2 hy; have p107 := y101_15 hy; have k107 := y107_m1 hy; have l107 := y107_m2 hy; have p108 := y101_16 hy; have k108 := y108_m1 hy; have l108 := y108_m2 hy
  unfold qA
  cases e : gl S s with
  | none =>
    refine ⟨σ, ?_, (FM.rf hy).fl, hm⟩
    rw [ce_258, sg_258_0]
    repeat (first | refine step_t (by with_reducible exact True.intro) ?_ | refine step_t (by omega) ?_ | refine step_f (by omega) ?_)
    refine step_c (s180n (by omega) hy hm hs e) ?_
    try dsimp only
    (try simp (disch := omega) only [wr_id2])
    repeat (first | refine step_t (by with_reducible exact True.intro) ?_ | refine step_t (by omega) ?_ | refine step_f (by omega) ?_)
    rfl
  | some L =>
    have e180 := s180s (d := d) (by omega) hy hm hs e
    obtain ⟨n, rfl, hn, hr, hw, en⟩ := hm.got e
    have hl := wf_len hw.1
    have h9 := hw.1.1
    have h1N := hw.2.1
    have hp8 := pow8 hw.1.1
    have hp0 := Nat.two_pow_pos (lN0 L)
    have hsh := shN_le L
    dsimp only
    obtain ⟨σ1, k1, k2, k3, k4⟩ := s203 (d := d) (by omega) hy hn hr hw.1
    refine ⟨σ1, ?_, k2.ml, k2.mr hm⟩
    rw [ce_258, sg_258_0]
    repeat (first | refine step_t (by with_reducible exact True.intro) ?_ | refine step_t (by omega) ?_ | refine step_f (by omega) ?_)
    refine step_c (e180) ?_
    try dsimp only
    (try simp (disch := omega) only [wr_id2])
    repeat (first | refine step_t (by with_reducible exact True.intro) ?_ | refine step_t (by omega) ?_ | refine step_f (by omega) ?_)
    refine step_c (k1) ?_
    try dsimp only
    exact s258l (d := d) (by omega) k2.2 hn k3 k4 hw.1 (lN0 L) 0 0 _ (by omega) (by omega)
/-- canTwist, twistable -/
theorem s268 {d : Nat} (h : 2 ≤ d) {σ : HP} {L : LB} (hy : Lay σ) (hq : wdR σ L) (hw : wf0 L) {i j : Nat} (hi : i < (lT L).length) (hj : j < (lT L).length) : clR PG0 MX d 268 [vR 101, vI i, vI j] σ = some (b2i (twB L i j), σ) := by
  obtain ⟨d, rfl⟩ := ob1 (show 1 ≤ d by omega)
  have y1 := hy.1; have k101 := y101_m1 hy; have p107 := y101_15 hy; have k107 := y107_m1 hy; have l107 := y107_m2 hy
  have hl := wf_len hw
  obtain ⟨q1, q2, q3, q4⟩ := hq
  have w1 := wd_256 hw i
  have w2 := wd_256 hw j
  have w3 := wd_256 hw (i + 1)
  have w4 := wd_256 hw (j + 1)
  have v1 := xor_256 w1 w2
  have v2 := xor_256 w3 w4
  have p1 := pop_le _ v1
  have p2 := pop_le _ v2
  have e1 := q1 i (by omega)
  have e2 := q1 j (by omega)
  have e3 := q1 (i + 1) (by omega)
  have e4 := q1 (j + 1) (by omega)
  rw [show ((i + 1 : Nat) : Int) = (i : Int) + 1 by omega] at e3
  rw [show ((j + 1 : Nat) : Int) = (j : Int) + 1 by omega] at e4
  rw [ce_268, sg_268_0]
  (try simp (disch := omega) only [p107, e1, e2, i_xor_n (a := wd L i) (b := wd L j) (by omega) (by omega), wr_id2])
  repeat (first | refine step_t (by with_reducible exact True.intro) ?_ | refine step_t (by omega) ?_ | refine step_f (by omega) ?_)
  refine step_c (s209 (by omega) σ (x := wd L i ^^^ wd L j) (by omega)) ?_
  try dsimp only
  (try simp (disch := omega) only [wr_id2])
  unfold twB
  refine step_i (fun g => ?_) (fun g => ?_)
  · rw [decide_eq_false (by omega)]; rfl
  · rw [decide_eq_true (show pop (wd L i ^^^ wd L j) = 1 by omega)]
    (try simp (disch := omega) only [p107, e3, e4, i_xor_n (a := wd L (i + 1)) (b := wd L (j + 1)) (by omega) (by omega), wr_id2])
    repeat (first | refine step_t (by with_reducible exact True.intro) ?_ | refine step_t (by omega) ?_ | refine step_f (by omega) ?_)
    refine step_c (s209 (by omega) σ (x := wd L (i + 1) ^^^ wd L (j + 1)) (by omega)) ?_
    try dsimp only
    (try simp (disch := omega) only [wr_id2])
    refine step_i (fun g2 => ?_) (fun g2 => ?_)
    · rw [decide_eq_false (by omega)]; rfl
    · rw [decide_eq_true (by omega)]; rfl
theorem s269i {d : Nat} (h : 2 ≤ d) {σ : HP} {n : Nat} {L : LB} (hy : Lay σ) (hn : n < 3) (hr : slR σ n L) (hq : wdR σ L) (hw : wf0 L) {i : Nat} (hi : i < (lT L).length) : ∀ (m j a : Nat), j + m = (lT L).length ∨ (m = 0 ∧ (lT L).length ≤ j ∧ j ≤ 300) → a ≤ 100000 - m → ∃ u, rsP PG0 MX d 269 34 [vR 101, vI n, vI a, vI i, vI j] [] σ = rsP PG0 MX d 269 20 [vR 101, vI n, vI (twI L i m j a : Nat), vI ((i + 1 : Nat) : Int), u] [] σ := by
  have y1 := hy.1; have k101 := y101_m1 hy
  have hl := wf_len hw
  have e204 := s204 (d := d) (by omega) hy hn hr
  intro m
  induction m with
  | zero =>
    intro j a hj ha
    refine ⟨vI j, ?_⟩
    rw [sg_269_34]
    repeat (first | refine step_t (by with_reducible exact True.intro) ?_ | refine step_t (by omega) ?_ | refine step_f (by omega) ?_)
    refine step_c (e204) ?_
    try dsimp only
    (try simp (disch := omega) only [wr_id2])
    repeat (first | refine step_t (by with_reducible exact True.intro) ?_ | refine step_t (by omega) ?_ | refine step_f (by omega) ?_)
    rfl
  | succ m ih =>
    intro j a hj ha
    have hj : j + (m + 1) = (lT L).length := by omega
    have e268 := s268 (d := d) (by omega) hy hq hw hi (j := j) (by omega)
    obtain ⟨u, q⟩ := ih (j + 1) (a + (bif twB L i j then 1 else 0)) (by omega) (by cases twB L i j <;> simp only [cond_true, cond_false] <;> omega)
    refine ⟨u, ?_⟩
    rw [sg_269_34]
    repeat (first | refine step_t (by with_reducible exact True.intro) ?_ | refine step_t (by omega) ?_ | refine step_f (by omega) ?_)
    refine step_c (e204) ?_
    try dsimp only
    (try simp (disch := omega) only [wr_id2])
    repeat (first | refine step_t (by with_reducible exact True.intro) ?_ | refine step_t (by omega) ?_ | refine step_f (by omega) ?_)
    refine step_c (e268) ?_
    try dsimp only
    rw [wr_b2i]
    unfold twI
    rw [← q]
    cases twB L i j
    · refine step_t (show b2i false = 0 by decide) ?_
      rfl
    · refine step_f (show ¬ (b2i true = 0) by decide) ?_
      rfl
theorem s269l {d : Nat} (h : 2 ≤ d) {σ : HP} {n : Nat} {L : LB} (hy : Lay σ) (hn : n < 3) (hr : slR σ n L) (hq : wdR σ L) (hw : wf0 L) : ∀ (m i a : Nat) (u : MV), i + m = (lT L).length → a ≤ 300 * i → rsP PG0 MX d 269 20 [vR 101, vI n, vI a, vI i, u] [] σ = some (((twO L m i a : Nat) : Int), σ) := by
  have y1 := hy.1; have k101 := y101_m1 hy
  have hl := wf_len hw
  have e204 := s204 (d := d) (by omega) hy hn hr
  intro m
  induction m with
  | zero =>
    intro i a u hi ha
    rw [sg_269_20]
    repeat (first | refine step_t (by with_reducible exact True.intro) ?_ | refine step_t (by omega) ?_ | refine step_f (by omega) ?_)
    refine step_c (e204) ?_
    try dsimp only
    (try simp (disch := omega) only [wr_id2])
    repeat (first | refine step_t (by with_reducible exact True.intro) ?_ | refine step_t (by omega) ?_ | refine step_f (by omega) ?_)
    rfl
  | succ m ih =>
    intro i a u hi ha
    obtain ⟨u2, q⟩ := s269i (d := d) (by omega) hy hn hr hq hw (i := i) (by omega) ((lT L).length - (i + 2)) (i + 2) a (by omega) (by omega)
    have hb := twI_le L i ((lT L).length - (i + 2)) (i + 2) a
    rw [sg_269_20]
    repeat (first | refine step_t (by with_reducible exact True.intro) ?_ | refine step_t (by omega) ?_ | refine step_f (by omega) ?_)
    refine step_c (e204) ?_
    try dsimp only
    (try simp (disch := omega) only [wr_id2])
    repeat (first | refine step_t (by with_reducible exact True.intro) ?_ | refine step_t (by omega) ?_ | refine step_f (by omega) ?_)
    refine Eq.trans q ?_
    exact ih (i + 1) _ _ (by omega) (by omega)
theorem m269 (S : AS) {s : Int} (hs : i32 s) : mOp 269 [vI s] S (qA S s twQ, S) := by
  intro d σ h hy ht hm
  obtain ⟨d, rfl⟩ := ob1 (show 1 ≤ d by omega)
  have y1 := hy.1; have k101 := y101_m1 hy; have p102 := y101_0 hy; have k102 := y102_m1 hy; have l102 := y102_m2 hy; have p107 := y101_15 hy; have k107 := y107_m1 hy; have l107 := y107_m2 hy; have p108 := y101_16 hy; have k108 := y108_m1 hy; have l108 := y108_m2 hy
  unfold qA
  cases e : gl S s with
  | none =>
    refine ⟨σ, ?_, (FM.rf hy).fl, hm⟩
    rw [ce_269, sg_269_0]
    repeat (first | refine step_t (by with_reducible exact True.intro) ?_ | refine step_t (by omega) ?_ | refine step_f (by omega) ?_)
    refine step_c (s180n (by omega) hy hm hs e) ?_
    try dsimp only
    (try simp (disch := omega) only [wr_id2])
    repeat (first | refine step_t (by with_reducible exact True.intro) ?_ | refine step_t (by omega) ?_ | refine step_f (by omega) ?_)
    rfl
  | some L =>
    have e180 := s180s (d := d) (by omega) hy hm hs e
    obtain ⟨n, rfl, hn, hr, hw, en⟩ := hm.got e
    have hl := wf_len hw.1
    have h9 := hw.1.1
    have h1N := hw.2.1
    have hp8 := pow8 hw.1.1
    have hp0 := Nat.two_pow_pos (lN0 L)
    have hsh := shN_le L
    dsimp only
    obtain ⟨σ1, k1, k2, k3, k4⟩ := s203 (d := d) (by omega) hy hn hr hw.1
    refine ⟨σ1, ?_, k2.ml, k2.mr hm⟩
    rw [ce_269, sg_269_0]
    repeat (first | refine step_t (by with_reducible exact True.intro) ?_ | refine step_t (by omega) ?_ | refine step_f (by omega) ?_)
    refine step_c (e180) ?_
    try dsimp only
    (try simp (disch := omega) only [wr_id2])
    repeat (first | refine step_t (by with_reducible exact True.intro) ?_ | refine step_t (by omega) ?_ | refine step_f (by omega) ?_)
    refine step_c (k1) ?_
    try dsimp only
    exact s269l (d := d) (by omega) k2.2 hn k3 k4 hw.1 (lT L).length 0 0 _ (by omega) (by omega)
