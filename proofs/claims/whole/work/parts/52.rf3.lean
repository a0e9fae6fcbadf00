/-! QUESTIONS THAT THE REFERENCE ANSWERS -/
theorem FQ.ml {σ σ' : HP} (h : FQ σ σ') : FL σ σ' := h.fm.fl
/-- word -/
theorem m218 (S : AS) {s p : Int} (hs : i32 s) (hx : i32 p) : mOp 218 [vI s, vI p] S (qA S s (wrdQ p), S) := by
  intro d σ h hy ht hm
  obtain ⟨d, rfl⟩ := ob1 (show 1 ≤ d by omega)
  have y1 := hy.1; have k101 := y101_m1 hy; have p102 := y101_0 hy; have k102 := y102_m1 hy; have l102 := y102_m2 hy; have p107 := y101_15 hy; have k107 := y107_m1 hy; have l107 := y107_m2 hy; have p108 := y101_16 hy; have k108 := y108_m1 hy; have l108 := y108_m2 hy
  unfold qA
  cases e : gl S s with
  | none =>
    refine ⟨σ, ?_, (FM.rf hy).fl, hm⟩
    rw [ce_218, sg_218_0]
    repeat (first | refine step_t (by with_reducible exact True.intro) ?_ | refine step_t (by omega) ?_ | refine step_f (by omega) ?_)
    refine step_c (s180n (by omega) hy hm hs e) ?_
    try dsimp only
    (try simp (disch := omega) only [wr_id2])
    repeat (first | refine step_t (by with_reducible exact True.intro) ?_ | refine step_t (by omega) ?_ | refine step_f (by omega) ?_)
    rfl
  | some L =>
    have e180 := s180s (d := d) (by omega) hy hm hs e
    obtain ⟨n, rfl, hn, hr, hw, en⟩ := hm.got e
    have hl := wf_len hw.1
    have h9 := hw.1.1
    have h1N := hw.2.1
    have hp8 := pow8 hw.1.1
    have hp0 := Nat.two_pow_pos (lN0 L)
    have hsh := shN_le L
    dsimp only
    have x1 := hx.1
    have x2 := hx.2
    unfold wrdQ
    by_cases z : 0 ≤ p
    · rw [if_pos z]
      obtain ⟨σ1, k1, k2, k3, k4⟩ := s203 (d := d) (by omega) hy hn hr hw.1
      have hy1 := k2.2
      have y1b := hy1.1; have k101b := y101_m1 hy1; have p107b := y101_15 hy1; have k107b := y107_m1 hy1; have l107b := y107_m2 hy1
      have e204 := s204 (d := d) (by omega) hy1 hn k3
      refine ⟨σ1, ?_, k2.ml, k2.mr hm⟩
      rw [ce_218, sg_218_0]
      repeat (first | refine step_t (by with_reducible exact True.intro) ?_ | refine step_t (by omega) ?_ | refine step_f (by omega) ?_)
      refine step_c (e180) ?_
      try dsimp only
      (try simp (disch := omega) only [wr_id2])
      repeat (first | refine step_t (by with_reducible exact True.intro) ?_ | refine step_t (by omega) ?_ | refine step_f (by omega) ?_)
      refine step_c (k1) ?_
      try dsimp only
      repeat (first | refine step_t (by with_reducible exact True.intro) ?_ | refine step_t (by omega) ?_ | refine step_f (by omega) ?_)
      refine step_c (e204) ?_
      try dsimp only
      (try simp (disch := omega) only [wr_id2])
      by_cases z2 : p ≤ (lT L).length
      · rw [if_pos z2]
        have e2 := k4.1 p.toNat (by omega)
        rw [show ((p.toNat : Nat) : Int) = p by omega] at e2
        refine step_f (by omega) ?_
        (try simp (disch := omega) only [p107b, e2, wr_id2])
        repeat (first | refine step_t (by with_reducible exact True.intro) ?_ | refine step_t (by omega) ?_ | refine step_f (by omega) ?_)
        rfl
      · rw [if_neg z2]
        refine step_t (by omega) ?_
        rfl
    · rw [if_neg z]
      refine ⟨σ, ?_, (FM.rf hy).fl, hm⟩
      rw [ce_218, sg_218_0]
      repeat (first | refine step_t (by with_reducible exact True.intro) ?_ | refine step_t (by omega) ?_ | refine step_f (by omega) ?_)
      refine step_c (e180) ?_
      try dsimp only
      (try simp (disch := omega) only [wr_id2])
      repeat (first | refine step_t (by with_reducible exact True.intro) ?_ | refine step_t (by omega) ?_ | refine step_f (by omega) ?_)
      rfl
/-- step -/
theorem m219 (S : AS) {s p : Int} (hs : i32 s) (hx : i32 p) : mOp 219 [vI s, vI p] S (qA S s (stpQ p), S) := by
  intro d σ h hy ht hm
  obtain ⟨d, rfl⟩ := ob1 (show 1 ≤ d by omega)
  have y1 := hy.1; have k101 := y101_m1 hy; have p102 := y101_0 hy; have k102 := y102_m1 hy; have l102 := y102_m2 hy; have p107 := y101_15 hy; have k107 := y107_m1 hy; have l107 := y107_m2 hy; have p108 := y101_16 hy; have k108 := y108_m1 hy; have l108 := y108_m2 hy
  unfold qA
  cases e : gl S s with
  | none =>
    refine ⟨σ, ?_, (FM.rf hy).fl, hm⟩
    rw [ce_219, sg_219_0]
    repeat (first | refine step_t (by with_reducible exact True.intro) ?_ | refine step_t (by omega) ?_ | refine step_f (by omega) ?_)
    refine step_c (s180n (by omega) hy hm hs e) ?_
    try dsimp only
    (try simp (disch := omega) only [wr_id2])
    repeat (first | refine step_t (by with_reducible exact True.intro) ?_ | refine step_t (by omega) ?_ | refine step_f (by omega) ?_)
    rfl
  | some L =>
    have e180 := s180s (d := d) (by omega) hy hm hs e
    obtain ⟨n, rfl, hn, hr, hw, en⟩ := hm.got e
    have hl := wf_len hw.1
    have h9 := hw.1.1
    have h1N := hw.2.1
    have hp8 := pow8 hw.1.1
    have hp0 := Nat.two_pow_pos (lN0 L)
    have hsh := shN_le L
    dsimp only
    have x1 := hx.1
    have x2 := hx.2
    unfold stpQ
    have e204 := s204 (d := d) (by omega) hy hn hr
    refine ⟨σ, ?_, (FM.rf hy).fl, hm⟩
    rw [ce_219, sg_219_0]
    repeat (first | refine step_t (by with_reducible exact True.intro) ?_ | refine step_t (by omega) ?_ | refine step_f (by omega) ?_)
    refine step_c (e180) ?_
    try dsimp only
    (try simp (disch := omega) only [wr_id2])
    repeat (first | refine step_t (by with_reducible exact True.intro) ?_ | refine step_t (by omega) ?_ | refine step_f (by omega) ?_)
    by_cases z : 0 ≤ p
    · rw [if_pos z]
      repeat (first | refine step_t (by with_reducible exact True.intro) ?_ | refine step_t (by omega) ?_ | refine step_f (by omega) ?_)
      refine step_c (e204) ?_
      try dsimp only
      (try simp (disch := omega) only [wr_id2])
      by_cases z2 : p < (lT L).length
      · rw [if_pos z2]
        obtain ⟨x, hx2⟩ := st_get (L := L) (i := p.toNat) (by omega)
        have e205 := s205 (d := d) (by omega) hy hn hr hw.1 hx2
        rw [show ((p.toNat : Nat) : Int) = p by omega] at e205
        rw [hx2]
        refine step_f (by omega) ?_
        repeat (first | refine step_t (by with_reducible exact True.intro) ?_ | refine step_t (by omega) ?_ | refine step_f (by omega) ?_)
        refine step_c (e205) ?_
        try dsimp only
        rfl
      · rw [if_neg z2]
        refine step_t (by omega) ?_
        rfl
    · rw [if_neg z]
      repeat (first | refine step_t (by with_reducible exact True.intro) ?_ | refine step_t (by omega) ?_ | refine step_f (by omega) ?_)
      rfl
/-- where -/
theorem s220l {d : Nat} {σ : HP} {L : LB} (hy : Lay σ) (hq : wdR σ L) (hw : wf0 L) {x : Nat} (hx : x < 256) : ∀ (m i : Nat) (k : Int) (u1 u3 : MV), i + m = shN L → 0 ≤ k → k ≤ 2147483647 → rsP PG0 MX d 220 27 [vR 101, u1, vI x, u3, vI k, vI i] [] σ = some (nthF (fun i => decide (wd L i = x)) m i k, σ) := by
  have y1 := hy.1; have k101 := y101_m1 hy; have p107 := y101_15 hy; have k107 := y107_m1 hy; have l107 := y107_m2 hy
  have hl := wf_len hw
  have hs := shN_le L
  obtain ⟨q1, q2, q3, q4⟩ := hq
  intro m
  induction m with
  | zero =>
    intro i k u1 u3 hi k1 k2
    rw [sg_220_27]
    (try simp (disch := omega) only [q3, wr_id2])
    repeat (first | refine step_t (by with_reducible exact True.intro) ?_ | refine step_t (by omega) ?_ | refine step_f (by omega) ?_)
    rfl
  | succ m ih =>
    intro i k u1 u3 hi k1 k2
    have w1 := wd_256 hw i
    have e1 := q1 i (by omega)
    rw [sg_220_27]
    (try simp (disch := omega) only [q3, p107, e1, wr_id2])
    repeat (first | refine step_t (by with_reducible exact True.intro) ?_ | refine step_t (by omega) ?_ | refine step_f (by omega) ?_)
    unfold nthF
    refine step_i (fun g => ?_) (fun g => ?_)
    · rw [if_neg (show ¬ decide (wd L i = x) = true from fun z => by have := of_decide_eq_true z; omega)]
      exact ih (i + 1) k _ _ (by omega) k1 k2
    · rw [if_pos (show decide (wd L i = x) = true from decide_eq_true (by omega))]
      refine step_i (fun g2 => ?_) (fun g2 => ?_)
      · rw [if_neg g2]
        exact ih (i + 1) (k - 1) _ _ (by omega) (by omega) (by omega)
      · rw [if_pos (show k = 0 by omega)]
theorem m220 (S : AS) {s x k : Int} (hs : i32 s) (hx : i32 x) (hk : i32 k) : mOp 220 [vI s, vI x, vI k] S (qA S s (wheQ x k), S) := by
  intro d σ h hy ht hm
  obtain ⟨d, rfl⟩ := ob1 (show 1 ≤ d by omega)
  have y1 := hy.1; have k101 := y101_m1 hy; have p102 := y101_0 hy; have k102 := y102_m1 hy; have l102 := y102_m2 hy; have p107 := y101_15 hy; have k107 := y107_m1 hy; have l107 := y107_m2 hy; have p108 := y101_16 hy; have k108 := y108_m1 hy; have l108 := y108_m2 hy
  unfold qA
  cases e : gl S s with
  | none =>
    refine ⟨σ, ?_, (FM.rf hy).fl, hm⟩
    rw [ce_220, sg_220_0]
    repeat (first | refine step_t (by with_reducible exact True.intro) ?_ | refine step_t (by omega) ?_ | refine step_f (by omega) ?_)
    refine step_c (s221n (by omega) hy hm hs hx e) ?_
    try dsimp only
    (try simp (disch := omega) only [wr_id2])
    repeat (first | refine step_t (by with_reducible exact True.intro) ?_ | refine step_t (by omega) ?_ | refine step_f (by omega) ?_)
    rfl
  | some L =>
    have e180 := s221s (d := d) (by omega) hy hm hs hx e
    obtain ⟨n, rfl, hn, hr, hw, en⟩ := hm.got e
    have hl := wf_len hw.1
    have h9 := hw.1.1
    have h1N := hw.2.1
    have hp8 := pow8 hw.1.1
    have hp0 := Nat.two_pow_pos (lN0 L)
    have hsh := shN_le L
    dsimp only
    have x1 := hk.1
    have x2 := hk.2
    unfold wheQ
    by_cases z : 0 ≤ x ∧ x < (2 ^ lN0 L : Nat)
    · rw [decide_eq_true z] at e180
      rw [if_pos z]
      by_cases z2 : 0 ≤ k
      · rw [if_pos z2]
        obtain ⟨σ1, k1, k2, k3, k4⟩ := s203 (d := d) (by omega) hy hn hr hw.1
        refine ⟨σ1, ?_, k2.ml, k2.mr hm⟩
        rw [ce_220, sg_220_0]
        repeat (first | refine step_t (by with_reducible exact True.intro) ?_ | refine step_t (by omega) ?_ | refine step_f (by omega) ?_)
        refine step_c (e180) ?_
        try dsimp only
        rw [wr_b2i]
        refine step_f (show ¬ (b2i true = 0) by decide) ?_
        (try simp (disch := omega) only [wr_id2])
        repeat (first | refine step_t (by with_reducible exact True.intro) ?_ | refine step_t (by omega) ?_ | refine step_f (by omega) ?_)
        refine step_c (k1) ?_
        try dsimp only
        have e9 := s220l (d := d) k2.2 k4 hw.1 (x := x.toNat) (by omega) (shN L) 0 k (vI n) (vI k) (by omega) z2 x2
        rw [show ((x.toNat : Nat) : Int) = x by omega] at e9
        exact e9
      · rw [if_neg z2]
        refine ⟨σ, ?_, (FM.rf hy).fl, hm⟩
        rw [ce_220, sg_220_0]
        repeat (first | refine step_t (by with_reducible exact True.intro) ?_ | refine step_t (by omega) ?_ | refine step_f (by omega) ?_)
        refine step_c (e180) ?_
        try dsimp only
        rw [wr_b2i]
        refine step_f (show ¬ (b2i true = 0) by decide) ?_
        (try simp (disch := omega) only [wr_id2])
        repeat (first | refine step_t (by with_reducible exact True.intro) ?_ | refine step_t (by omega) ?_ | refine step_f (by omega) ?_)
        rfl
    · rw [decide_eq_false z] at e180
      rw [if_neg z]
      refine ⟨σ, ?_, (FM.rf hy).fl, hm⟩
      rw [ce_220, sg_220_0]
      repeat (first | refine step_t (by with_reducible exact True.intro) ?_ | refine step_t (by omega) ?_ | refine step_f (by omega) ?_)
      refine step_c (e180) ?_
      try dsimp only
      rw [wr_b2i]
      refine step_t (show b2i false = 0 by decide) ?_
      rfl
/-- lacks -/
theorem s222l {d : Nat} (h : 3 ≤ d) {σ : HP} {n : Nat} {L : LB} (hy : Lay σ) (hn : n < 3) (hr : slR σ n L) (hq : wdR σ L) (hw : wf0 L) : ∀ (m i : Nat) (k : Int) (u2 : MV), i + m = 2 ^ lN0 L → 0 ≤ k → k ≤ 2147483647 → rsP PG0 MX d 222 25 [vR 101, vI n, u2, vI k, vI i] [] σ = some (nthF (lckB L) m i k, σ) := by
  have y1 := hy.1; have k101 := y101_m1 hy; have p108 := y101_16 hy; have k108 := y108_m1 hy; have l108 := y108_m2 hy
  have h8 := pow8 hw.1
  have h9 := hw.1
  obtain ⟨q1, q2, q3, q4⟩ := hq
  have e207 := s207 (d := d) (by omega) hy hn hr
  intro m
  induction m with
  | zero =>
    intro i k u2 hi k1 k2
    rw [sg_222_25]
    repeat (first | refine step_t (by with_reducible exact True.intro) ?_ | refine step_t (by omega) ?_ | refine step_f (by omega) ?_)
    refine step_c (e207) ?_
    try dsimp only
    rw [shl1 (show lN0 L < 31 by omega)]
    (try simp (disch := omega) only [wr_id2])
    repeat (first | refine step_t (by with_reducible exact True.intro) ?_ | refine step_t (by omega) ?_ | refine step_f (by omega) ?_)
    rfl
  | succ m ih =>
    intro i k u2 hi k1 k2
    have e208 := s208 (d := d) (by omega) hy hn hr hw (x := i) (by omega)
    have e2 := q2 i (by omega)
    have e3 : cW L i ≤ shN L := cwN_le L i _
    have hs := shN_le L
    have hl := wf_len hw
    rw [sg_222_25]
    repeat (first | refine step_t (by with_reducible exact True.intro) ?_ | refine step_t (by omega) ?_ | refine step_f (by omega) ?_)
    refine step_c (e207) ?_
    try dsimp only
    rw [shl1 (show lN0 L < 31 by omega)]
    (try simp (disch := omega) only [wr_id2])
    repeat (first | refine step_t (by with_reducible exact True.intro) ?_ | refine step_t (by omega) ?_ | refine step_f (by omega) ?_)
    refine step_c (e208) ?_
    try dsimp only
    rw [wr_b2i]
    unfold nthF
    have el : lckB L i = (decide (cW L i = 0) && inSc L i) := rfl
    cases hI : inSc L i with
    | false =>
      refine step_t (show b2i false = 0 by decide) ?_
      rw [if_neg (by rw [el, hI, Bool.and_false]; decide)]
      exact ih (i + 1) k _ (by omega) k1 k2
    | true =>
      refine step_f (show ¬ (b2i true = 0) by decide) ?_
      (try simp (disch := omega) only [p108, e2, wr_id2])
      repeat (first | refine step_t (by with_reducible exact True.intro) ?_ | refine step_t (by omega) ?_ | refine step_f (by omega) ?_)
      refine step_i (fun g => ?_) (fun g => ?_)
      · rw [if_neg (by rw [el, decide_eq_false (by omega), Bool.false_and]; decide)]
        exact ih (i + 1) k _ (by omega) k1 k2
      · rw [if_pos (by rw [el, hI, decide_eq_true (by omega)]; rfl)]
        refine step_i (fun g2 => ?_) (fun g2 => ?_)
        · rw [if_neg g2]
          exact ih (i + 1) (k - 1) _ (by omega) (by omega) (by omega)
        · rw [if_pos (show k = 0 by omega)]
theorem m222 (S : AS) {s k : Int} (hs : i32 s) (hk : i32 k) : mOp 222 [vI s, vI k] S (qA S s (lckQ k), S) := by
  intro d σ h hy ht hm
  obtain ⟨d, rfl⟩ := ob1 (show 1 ≤ d by omega)
  have y1 := hy.1; have k101 := y101_m1 hy; have p102 := y101_0 hy; have k102 := y102_m1 hy; have l102 := y102_m2 hy; have p107 := y101_15 hy; have k107 := y107_m1 hy; have l107 := y107_m2 hy; have p108 := y101_16 hy; have k108 := y108_m1 hy; have l108 := y108_m2 hy
  unfold qA
  cases e : gl S s with
  | none =>
    refine ⟨σ, ?_, (FM.rf hy).fl, hm⟩
    rw [ce_222, sg_222_0]
    repeat (first | refine step_t (by with_reducible exact True.intro) ?_ | refine step_t (by omega) ?_ | refine step_f (by omega) ?_)
    refine step_c (s180n (by omega) hy hm hs e) ?_
    try dsimp only
    (try simp (disch := omega) only [wr_id2])
    repeat (first | refine step_t (by with_reducible exact True.intro) ?_ | refine step_t (by omega) ?_ | refine step_f (by omega) ?_)
    rfl
  | some L =>
    have e180 := s180s (d := d) (by omega) hy hm hs e
    obtain ⟨n, rfl, hn, hr, hw, en⟩ := hm.got e
    have hl := wf_len hw.1
    have h9 := hw.1.1
    have h1N := hw.2.1
    have hp8 := pow8 hw.1.1
    have hp0 := Nat.two_pow_pos (lN0 L)
    have hsh := shN_le L
    dsimp only
    have x1 := hk.1
    have x2 := hk.2
    unfold lckQ
    by_cases z2 : 0 ≤ k
    · rw [if_pos z2]
      obtain ⟨σ1, k1, k2, k3, k4⟩ := s203 (d := d) (by omega) hy hn hr hw.1
      refine ⟨σ1, ?_, k2.ml, k2.mr hm⟩
      rw [ce_222, sg_222_0]
      repeat (first | refine step_t (by with_reducible exact True.intro) ?_ | refine step_t (by omega) ?_ | refine step_f (by omega) ?_)
      refine step_c (e180) ?_
      try dsimp only
      (try simp (disch := omega) only [wr_id2])
      repeat (first | refine step_t (by with_reducible exact True.intro) ?_ | refine step_t (by omega) ?_ | refine step_f (by omega) ?_)
      refine step_c (k1) ?_
      try dsimp only
      exact s222l (d := d) (by omega) k2.2 hn k3 k4 hw.1 (2 ^ lN0 L) 0 k (vI k) (by omega) z2 x2
    · rw [if_neg z2]
      refine ⟨σ, ?_, (FM.rf hy).fl, hm⟩
      rw [ce_222, sg_222_0]
      repeat (first | refine step_t (by with_reducible exact True.intro) ?_ | refine step_t (by omega) ?_ | refine step_f (by omega) ?_)
      refine step_c (e180) ?_
      try dsimp only
      (try simp (disch := omega) only [wr_id2])
      repeat (first | refine step_t (by with_reducible exact True.intro) ?_ | refine step_t (by omega) ?_ | refine step_f (by omega) ?_)
      rfl
/-- turnedOf -/
theorem s225l {d : Nat} (h : 2 ≤ d) {σ : HP} {n : Nat} {L : LB} (hy : Lay σ) (hn : n < 3) (hr : slR σ n L) (hw : wf0 L) {x : Nat} (hx : x < 1000) : ∀ (m i : Nat), i + m = (lT L).length → rsP PG0 MX d 225 5 [vR 101, vI n, vI x, vI (cntB (fun i => decide ((lT L)[i]? = some x)) i : Nat), vI i] [] σ = some (((tuN L x : Nat) : Int), σ) := by
  have y1 := hy.1; have k101 := y101_m1 hy
  have hl := wf_len hw
  have h9 := hw.1
  have e204 := s204 (d := d) (by omega) hy hn hr
  intro m
  induction m with
  | zero =>
    intro i hi
    have : i = (lT L).length := by omega
    subst this
    rw [sg_225_5]
    repeat (first | refine step_t (by with_reducible exact True.intro) ?_ | refine step_t (by omega) ?_ | refine step_f (by omega) ?_)
    refine step_c (e204) ?_
    try dsimp only
    (try simp (disch := omega) only [wr_id2])
    repeat (first | refine step_t (by with_reducible exact True.intro) ?_ | refine step_t (by omega) ?_ | refine step_f (by omega) ?_)
    rfl
  | succ m ih =>
    intro i hi
    obtain ⟨y, hy2⟩ := st_get (L := L) (i := i) (by omega)
    have y3 := st_lt hw hy2
    have e205 := s205 (d := d) (by omega) hy hn hr hw hy2
    have q := ih (i + 1) (by omega)
    have ec : cntB (fun i => decide ((lT L)[i]? = some x)) (i + 1) = cntB (fun i => decide ((lT L)[i]? = some x)) i + (bif decide ((lT L)[i]? = some x) then 1 else 0) := rfl
    rw [ec, hy2] at q
    rw [sg_225_5]
    repeat (first | refine step_t (by with_reducible exact True.intro) ?_ | refine step_t (by omega) ?_ | refine step_f (by omega) ?_)
    refine step_c (e204) ?_
    try dsimp only
    (try simp (disch := omega) only [wr_id2])
    repeat (first | refine step_t (by with_reducible exact True.intro) ?_ | refine step_t (by omega) ?_ | refine step_f (by omega) ?_)
    refine step_c (e205) ?_
    try dsimp only
    (try simp (disch := omega) only [wr_id2])
    by_cases e : y = x
    · refine step_f (by omega) ?_
      rw [e, decide_eq_true rfl] at q
      exact q
    · refine step_t (by omega) ?_
      rw [decide_eq_false (fun z => e (Option.some.inj z))] at q
      exact q
theorem s225 {d : Nat} (h : 3 ≤ d) {σ : HP} {n : Nat} {L : LB} (hy : Lay σ) (hn : n < 3) (hr : slR σ n L) (hw : wf0 L) {x : Nat} (hx : x < 1000) : clR PG0 MX d 225 [vR 101, vI n, vI x] σ = some (((tuN L x : Nat) : Int), σ) := by
  obtain ⟨d, rfl⟩ := ob1 (show 1 ≤ d by omega)
  rw [ce_225, sg_225_0]
  exact s225l (d := d) (by omega) hy hn hr hw hx (lT L).length 0 (by omega)
theorem m223 (S : AS) {s x : Int} (hs : i32 s) (hx : i32 x) : mOp 223 [vI s, vI x] S (qA S s (trnQ x), S) := by
  intro d σ h hy ht hm
  obtain ⟨d, rfl⟩ := ob1 (show 1 ≤ d by omega)
  have y1 := hy.1; have k101 := y101_m1 hy; have p102 := y101_0 hy; have k102 := y102_m1 hy; have l102 := y102_m2 hy; have p107 := y101_15 hy; have k107 := y107_m1 hy; have l107 := y107_m2 hy; have p108 := y101_16 hy; have k108 := y108_m1 hy; have l108 := y108_m2 hy
  unfold qA
  cases e : gl S s with
  | none =>
    refine ⟨σ, ?_, (FM.rf hy).fl, hm⟩
    rw [ce_223, sg_223_0]
    repeat (first | refine step_t (by with_reducible exact True.intro) ?_ | refine step_t (by omega) ?_ | refine step_f (by omega) ?_)
    refine step_c (s224n (by omega) hy hm hs hx e) ?_
    try dsimp only
    (try simp (disch := omega) only [wr_id2])
    repeat (first | refine step_t (by with_reducible exact True.intro) ?_ | refine step_t (by omega) ?_ | refine step_f (by omega) ?_)
    rfl
  | some L =>
    have e180 := s224s (d := d) (by omega) hy hm hs hx e
    obtain ⟨n, rfl, hn, hr, hw, en⟩ := hm.got e
    have hl := wf_len hw.1
    have h9 := hw.1.1
    have h1N := hw.2.1
    have hp8 := pow8 hw.1.1
    have hp0 := Nat.two_pow_pos (lN0 L)
    have hsh := shN_le L
    dsimp only
    unfold trnQ
    refine ⟨σ, ?_, (FM.rf hy).fl, hm⟩
    rw [ce_223, sg_223_0]
    repeat (first | refine step_t (by with_reducible exact True.intro) ?_ | refine step_t (by omega) ?_ | refine step_f (by omega) ?_)
    refine step_c (e180) ?_
    try dsimp only
    rw [wr_b2i]
    by_cases z : 0 ≤ x ∧ x < lN0 L
    · rw [decide_eq_true z, if_pos z]
      refine step_f (show ¬ (b2i true = 0) by decide) ?_
      repeat (first | refine step_t (by with_reducible exact True.intro) ?_ | refine step_t (by omega) ?_ | refine step_f (by omega) ?_)
      have e9 := s225 (d := d) (by omega) hy hn hr hw.1 (x := x.toNat) (by omega)
      rw [show ((x.toNat : Nat) : Int) = x by omega] at e9
      refine step_c (e9) ?_
      try dsimp only
    · rw [decide_eq_false z, if_neg z]
      refine step_t (show b2i false = 0 by decide) ?_
      rfl
/-- order -/
theorem s226i {d : Nat} (h : 3 ≤ d) {σ : HP} {n : Nat} {L : LB} (hy : Lay σ) (hn : n < 3) (hr : slR σ n L) (hw : wf0 L) {k : Int} {x : Nat} (hx : x < 8) : ∀ (m o : Nat), o + m = lN0 L → rsP PG0 MX d 226 29 [vR 101, vI n, vI k, vI x, vI (cntB (ahB L x) o : Nat), vI o] [] σ = rsP PG0 MX d 226 29 [vR 101, vI n, vI k, vI x, vI (cntB (ahB L x) (lN0 L) : Nat), vI (lN0 L : Nat)] [] σ := by
  have y1 := hy.1; have k101 := y101_m1 hy
  have h9 := hw.1
  have e207 := s207 (d := d) (by omega) hy hn hr
  intro m
  induction m with
  | zero =>
    intro o ho
    have : o = lN0 L := by omega
    subst this
    rfl
  | succ m ih =>
    intro o ho
    have t1 := tuN_le hw o
    have t2 := tuN_le hw x
    have e1 := s225 (d := d) (by omega) hy hn hr hw (x := o) (by omega)
    have e2 := s225 (d := d) (by omega) hy hn hr hw (x := x) (by omega)
    have q := ih (o + 1) (by omega)
    have ec : cntB (ahB L x) (o + 1) = cntB (ahB L x) o + (bif ahB L x o then 1 else 0) := rfl
    rw [ec] at q
    rw [← q, sg_226_29]
    repeat (first | refine step_t (by with_reducible exact True.intro) ?_ | refine step_t (by omega) ?_ | refine step_f (by omega) ?_)
    refine step_c (e207) ?_
    try dsimp only
    (try simp (disch := omega) only [wr_id2])
    repeat (first | refine step_t (by with_reducible exact True.intro) ?_ | refine step_t (by omega) ?_ | refine step_f (by omega) ?_)
    refine step_c (e1) ?_
    try dsimp only
    repeat (first | refine step_t (by with_reducible exact True.intro) ?_ | refine step_t (by omega) ?_ | refine step_f (by omega) ?_)
    refine step_c (e2) ?_
    try dsimp only
    (try simp (disch := omega) only [wr_id2])
    unfold ahB
    refine step_i (fun g => ?_) (fun g => ?_)
    · rw [sg_226_79, sg_226_87, decide_eq_true (show tuN L x < tuN L o by omega)]
      rfl
    · rw [decide_eq_false (show ¬ tuN L x < tuN L o by omega)]
      repeat (first | refine step_t (by with_reducible exact True.intro) ?_ | refine step_t (by omega) ?_ | refine step_f (by omega) ?_)
      refine step_c (e1) ?_
      try dsimp only
      repeat (first | refine step_t (by with_reducible exact True.intro) ?_ | refine step_t (by omega) ?_ | refine step_f (by omega) ?_)
      refine step_c (e2) ?_
      try dsimp only
      (try simp (disch := omega) only [wr_id2])
      refine step_i (fun g2 => ?_) (fun g2 => ?_)
      · rw [sg_226_87, decide_eq_false (show ¬ tuN L o = tuN L x by omega)]
        rfl
      · rw [decide_eq_true (show tuN L o = tuN L x by omega)]
        refine step_i (fun g3 => ?_) (fun g3 => ?_)
        · rw [sg_226_87, decide_eq_false (show ¬ o < x by omega)]
          rfl
        · rw [sg_226_79, sg_226_87, decide_eq_true (show o < x by omega)]
          rfl
theorem s226l {d : Nat} (h : 3 ≤ d) {σ : HP} {n : Nat} {L : LB} (hy : Lay σ) (hn : n < 3) (hr : slR σ n L) (hw : wf0 L) {k : Int} (hk : i32 k) : ∀ (m x : Nat) (u4 u5 : MV), x + m = lN0 L → rsP PG0 MX d 226 14 [vR 101, vI n, vI k, vI x, u4, u5] [] σ = some (ordF L k m x, σ) := by
  have y1 := hy.1; have k101 := y101_m1 hy
  have h9 := hw.1
  have k1 := hk.1
  have k2 := hk.2
  have e207 := s207 (d := d) (by omega) hy hn hr
  intro m
  induction m with
  | zero =>
    intro x u4 u5 hx
    rw [sg_226_14]
    repeat (first | refine step_t (by with_reducible exact True.intro) ?_ | refine step_t (by omega) ?_ | refine step_f (by omega) ?_)
    refine step_c (e207) ?_
    try dsimp only
    (try simp (disch := omega) only [wr_id2])
    repeat (first | refine step_t (by with_reducible exact True.intro) ?_ | refine step_t (by omega) ?_ | refine step_f (by omega) ?_)
    rfl
  | succ m ih =>
    intro x u4 u5 hx
    have hc := cntB_le (ahB L x) (lN0 L)
    have q := s226i (d := d) h hy hn hr hw (k := k) (x := x) (by omega) (lN0 L) 0 (by omega)
    rw [sg_226_14]
    repeat (first | refine step_t (by with_reducible exact True.intro) ?_ | refine step_t (by omega) ?_ | refine step_f (by omega) ?_)
    refine step_c (e207) ?_
    try dsimp only
    (try simp (disch := omega) only [wr_id2])
    repeat (first | refine step_t (by with_reducible exact True.intro) ?_ | refine step_t (by omega) ?_ | refine step_f (by omega) ?_)
    have q : rsP PG0 MX d 226 29 [vR 101, vI n, vI k, vI x, vI 0, vI 0] [] σ = rsP PG0 MX d 226 29 [vR 101, vI n, vI k, vI x, vI (cntB (ahB L x) (lN0 L) : Nat), vI (lN0 L : Nat)] [] σ := q
    rw [q, sg_226_29]
    repeat (first | refine step_t (by with_reducible exact True.intro) ?_ | refine step_t (by omega) ?_ | refine step_f (by omega) ?_)
    refine step_c (e207) ?_
    try dsimp only
    (try simp (disch := omega) only [wr_id2])
    refine step_t (by omega) ?_
    unfold ordF
    refine step_i (fun g => ?_) (fun g => ?_)
    · rw [if_neg g]
      exact ih (x + 1) _ _ (by omega)
    · rw [if_pos (by omega)]
theorem s226 {d : Nat} (h : 5 ≤ d) {σ : HP} {S : AS} (hy : Lay σ) (hm : MM σ S) {s k : Int} (hs : i32 s) (hx : i32 k) {L : LB} (e : gl S s = some L) : clR PG0 MX d 226 [vR 101, vI s, vI k] σ = some (ordQ k L, σ) := by
  obtain ⟨d, rfl⟩ := ob1 (show 1 ≤ d by omega)
  have y1 := hy.1; have k101 := y101_m1 hy
  have e180 := s224s (d := d) (by omega) hy hm hs hx e
  obtain ⟨n, rfl, hn, hr, hw, en⟩ := hm.got e
  have h9 := hw.1.1
  rw [ce_226, sg_226_0]
  repeat (first | refine step_t (by with_reducible exact True.intro) ?_ | refine step_t (by omega) ?_ | refine step_f (by omega) ?_)
  refine step_c (e180) ?_
  try dsimp only
  rw [wr_b2i]
  unfold ordQ
  by_cases z : 0 ≤ k ∧ k < lN0 L
  · rw [decide_eq_true z, if_pos z]
    refine step_t (show b2i true ≠ 0 by decide) ?_
    exact s226l (d := d) (by omega) hy hn hr hw.1 hx (lN0 L) 0 _ _ (by omega)
  · rw [decide_eq_false z, if_neg z]
    refine step_f (show ¬ (b2i false ≠ 0) by decide) ?_
    rfl
theorem m226 (S : AS) {s x : Int} (hs : i32 s) (hx : i32 x) : mOp 226 [vI s, vI x] S (qA S s (ordQ x), S) := by
  intro d σ h hy ht hm
  refine ⟨σ, ?_, (FM.rf hy).fl, hm⟩
  unfold qA
  cases e : gl S s with
  | none =>
    obtain ⟨d, rfl⟩ := ob1 (show 1 ≤ d by omega)
    have y1 := hy.1; have k101 := y101_m1 hy
    rw [ce_226, sg_226_0]
    repeat (first | refine step_t (by with_reducible exact True.intro) ?_ | refine step_t (by omega) ?_ | refine step_f (by omega) ?_)
    refine step_c (s224n (by omega) hy hm hs hx e) ?_
    try dsimp only
    (try simp (disch := omega) only [wr_id2])
    repeat (first | refine step_t (by with_reducible exact True.intro) ?_ | refine step_t (by omega) ?_ | refine step_f (by omega) ?_)
    rfl
  | some L => exact s226 (by omega) hy hm hs hx e
/-- level -/
theorem s233l {d : Nat} (h : 1 ≤ d) {σ : HP} {L : LB} (hy : Lay σ) (hq : wdR σ L) (hw : wf0 L) {l v : Int} (hl2 : i32 l) (hv : i32 v) : ∀ (m i : Nat) (f : Int) (u : MV), i + m = shN L → -1 ≤ f ∧ f ≤ 600 → rsP PG0 MX d 233 47 [vR 101, u, vI l, vI v, vI f, vI i] [] σ = some (plvF L l (decide (v = 1)) m i f, σ) := by
  have y1 := hy.1; have k101 := y101_m1 hy; have p107 := y101_15 hy; have k107 := y107_m1 hy; have l107 := y107_m2 hy
  have hl := wf_len hw
  have hs := shN_le L
  have l1 := hl2.1
  have l2 := hl2.2
  have v1 := hv.1
  have v2 := hv.2
  obtain ⟨q1, q2, q3, q4⟩ := hq
  intro m
  induction m with
  | zero =>
    intro i f u hi hf
    rw [sg_233_47]
    (try simp (disch := omega) only [q3, wr_id2])
    repeat (first | refine step_t (by with_reducible exact True.intro) ?_ | refine step_t (by omega) ?_ | refine step_f (by omega) ?_)
    rfl
  | succ m ih =>
    intro i f u hi hf
    have w1 := wd_256 hw i
    have e1 := q1 i (by omega)
    have p8 := pop_le _ w1
    rw [sg_233_47]
    (try simp (disch := omega) only [q3, p107, e1, wr_id2])
    repeat (first | refine step_t (by with_reducible exact True.intro) ?_ | refine step_t (by omega) ?_ | refine step_f (by omega) ?_)
    refine step_c (s209 h σ (x := wd L i) (by omega)) ?_
    try dsimp only
    (try simp (disch := omega) only [wr_id2])
    unfold plvF
    refine step_i (fun g => ?_) (fun g => ?_)
    · rw [if_neg (by omega)]
      exact ih (i + 1) f _ (by omega) hf
    · refine step_i (fun g2 => ?_) (fun g2 => ?_)
      · rw [if_pos ⟨by omega, Or.inr g2⟩]
        exact ih (i + 1) (i : Int) _ (by omega) (by omega)
      · refine step_i (fun g3 => ?_) (fun g3 => ?_)
        · rw [if_neg (by rw [decide_eq_true_iff]; omega)]
          exact ih (i + 1) f _ (by omega) hf
        · rw [if_pos ⟨by omega, Or.inl (decide_eq_true (by omega))⟩]
          exact ih (i + 1) (i : Int) _ (by omega) (by omega)
theorem m233 (S : AS) {s l v : Int} (hs : i32 s) (hx : i32 l) (hv : i32 v) : mOp 233 [vI s, vI l, vI v] S (qA S s (lvlQ l v), S) := by
  intro d σ h hy ht hm
  obtain ⟨d, rfl⟩ := ob1 (show 1 ≤ d by omega)
  have y1 := hy.1; have k101 := y101_m1 hy; have p102 := y101_0 hy; have k102 := y102_m1 hy; have l102 := y102_m2 hy; have p107 := y101_15 hy; have k107 := y107_m1 hy; have l107 := y107_m2 hy; have p108 := y101_16 hy; have k108 := y108_m1 hy; have l108 := y108_m2 hy
  unfold qA
  cases e : gl S s with
  | none =>
    refine ⟨σ, ?_, (FM.rf hy).fl, hm⟩
    rw [ce_233, sg_233_0]
    repeat (first | refine step_t (by with_reducible exact True.intro) ?_ | refine step_t (by omega) ?_ | refine step_f (by omega) ?_)
    refine step_c (s180n (by omega) hy hm hs e) ?_
    try dsimp only
    (try simp (disch := omega) only [wr_id2])
    repeat (first | refine step_t (by with_reducible exact True.intro) ?_ | refine step_t (by omega) ?_ | refine step_f (by omega) ?_)
    rw [sg_233_33]
  | some L =>
    have e180 := s180s (d := d) (by omega) hy hm hs e
    obtain ⟨n, rfl, hn, hr, hw, en⟩ := hm.got e
    have h9 := hw.1.1
    have e207 := s207 (d := d) (by omega) hy hn hr
    have e1 := s179 (d := d) (by omega) σ hx (y := 0) (z := (lN0 L : Nat)) ⟨by decide, by decide⟩ (i32_n (by omega))
    have e2 := s179 (d := d) (by omega) σ hv (y := 0) (z := 1) ⟨by decide, by decide⟩ ⟨by decide, by decide⟩
    have wx := hx.wr
    have wv := hv.wr
    dsimp only
    unfold lvlQ
    by_cases z : 0 ≤ l ∧ l ≤ lN0 L
    · rw [decide_eq_true z] at e1
      rw [if_pos z]
      by_cases z2 : 0 ≤ v ∧ v ≤ 1
      · rw [decide_eq_true z2] at e2
        rw [if_pos z2]
        obtain ⟨σ1, k1, k2, k3, k4⟩ := s203 (d := d) (by omega) hy hn hr hw.1
        refine ⟨σ1, ?_, k2.ml, k2.mr hm⟩
        rw [ce_233, sg_233_0]
        repeat (first | refine step_t (by with_reducible exact True.intro) ?_ | refine step_t (by omega) ?_ | refine step_f (by omega) ?_)
        refine step_c (e180) ?_
        try dsimp only
        (try simp (disch := omega) only [wr_id2])
        repeat (first | refine step_t (by with_reducible exact True.intro) ?_ | refine step_t (by omega) ?_ | refine step_f (by omega) ?_)
        refine step_c (e207) ?_
        try dsimp only
        (try simp (disch := omega) only [wx, wv, wr_id2])
        refine step_c (e1) ?_
        try dsimp only
        rw [wr_b2i]
        refine step_f (show ¬ (b2i true = 0) by decide) ?_
        (try simp (disch := omega) only [wx, wv, wr_id2])
        refine step_c (e2) ?_
        try dsimp only
        rw [wr_b2i]
        refine step_t (show b2i true ≠ 0 by decide) ?_
        rw [sg_233_36]
        repeat (first | refine step_t (by with_reducible exact True.intro) ?_ | refine step_t (by omega) ?_ | refine step_f (by omega) ?_)
        refine step_c (k1) ?_
        try dsimp only
        exact s233l (d := d) (by omega) k2.2 k4 hw.1 hx hv (shN L) 0 (-1) _ (by omega) ⟨by omega, by omega⟩
      · rw [decide_eq_false z2] at e2
        rw [if_neg z2]
        refine ⟨σ, ?_, (FM.rf hy).fl, hm⟩
        rw [ce_233, sg_233_0]
        repeat (first | refine step_t (by with_reducible exact True.intro) ?_ | refine step_t (by omega) ?_ | refine step_f (by omega) ?_)
        refine step_c (e180) ?_
        try dsimp only
        (try simp (disch := omega) only [wr_id2])
        repeat (first | refine step_t (by with_reducible exact True.intro) ?_ | refine step_t (by omega) ?_ | refine step_f (by omega) ?_)
        refine step_c (e207) ?_
        try dsimp only
        (try simp (disch := omega) only [wx, wv, wr_id2])
        refine step_c (e1) ?_
        try dsimp only
        rw [wr_b2i]
        refine step_f (show ¬ (b2i true = 0) by decide) ?_
        (try simp (disch := omega) only [wx, wv, wr_id2])
        refine step_c (e2) ?_
        try dsimp only
        rw [wr_b2i]
        refine step_f (show ¬ (b2i false ≠ 0) by decide) ?_
        rw [sg_233_33]
    · rw [decide_eq_false z] at e1
      rw [if_neg z]
      refine ⟨σ, ?_, (FM.rf hy).fl, hm⟩
      rw [ce_233, sg_233_0]
      repeat (first | refine step_t (by with_reducible exact True.intro) ?_ | refine step_t (by omega) ?_ | refine step_f (by omega) ?_)
      refine step_c (e180) ?_
      try dsimp only
      (try simp (disch := omega) only [wr_id2])
      repeat (first | refine step_t (by with_reducible exact True.intro) ?_ | refine step_t (by omega) ?_ | refine step_f (by omega) ?_)
      refine step_c (e207) ?_
      try dsimp only
      (try simp (disch := omega) only [wx, wv, wr_id2])
      refine step_c (e1) ?_
      try dsimp only
      rw [wr_b2i]
      refine step_t (show b2i false = 0 by decide) ?_
      rw [sg_233_33]
/-- climbs -/
theorem s234l {d : Nat} (h : 2 ≤ d) {σ : HP} {n : Nat} {L : LB} (hy : Lay σ) (hn : n < 3) (hr : slR σ n L) (hq : wdR σ L) (hw : wf0 L) {l v : Int} (l1 : 0 ≤ l) (l2 : l < 9) (v1 : 0 ≤ v) (v2 : v ≤ 1) : ∀ (m i : Nat), i + m = (lT L).length → rsP PG0 MX d 234 49 [vR 101, vI n, vI l, vI v, vI (cntB (clbB L (if v = 1 then l else l + 1) (if v = 1 then l + 1 else l)) i : Nat), vI i] [] σ = some (((cntB (clbB L (if v = 1 then l else l + 1) (if v = 1 then l + 1 else l)) (lT L).length : Nat) : Int), σ) := by
  have y1 := hy.1; have k101 := y101_m1 hy; have p107 := y101_15 hy; have k107 := y107_m1 hy; have l107 := y107_m2 hy
  have hl := wf_len hw
  have e204 := s204 (d := d) (by omega) hy hn hr
  obtain ⟨q1, q2, q3, q4⟩ := hq
  intro m
  induction m with
  | zero =>
    intro i hi
    have : i = (lT L).length := by omega
    subst this
    rw [sg_234_49]
    repeat (first | refine step_t (by with_reducible exact True.intro) ?_ | refine step_t (by omega) ?_ | refine step_f (by omega) ?_)
    refine step_c (e204) ?_
    try dsimp only
    (try simp (disch := omega) only [wr_id2])
    repeat (first | refine step_t (by with_reducible exact True.intro) ?_ | refine step_t (by omega) ?_ | refine step_f (by omega) ?_)
    rfl
  | succ m ih =>
    intro i hi
    have w1 := wd_256 hw i
    have w2 := wd_256 hw (i + 1)
    have e1 := q1 i (by omega)
    have e2 := q1 (i + 1) (by omega)
    rw [show ((i + 1 : Nat) : Int) = (i : Int) + 1 by omega] at e2
    have p1 := pop_le _ w1
    have p2 := pop_le _ w2
    have q := ih (i + 1) (by omega)
    have ec : cntB (clbB L (if v = 1 then l else l + 1) (if v = 1 then l + 1 else l)) (i + 1) = cntB (clbB L (if v = 1 then l else l + 1) (if v = 1 then l + 1 else l)) i + (bif clbB L (if v = 1 then l else l + 1) (if v = 1 then l + 1 else l) i then 1 else 0) := rfl
    rw [ec] at q
    generalize cntB (clbB L (if v = 1 then l else l + 1) (if v = 1 then l + 1 else l)) i = c at *
    unfold clbB at q
    have q209 := s209 (d := d) (by omega) σ (x := wd L i) (by omega)
    have q210 := s209 (d := d) (by omega) σ (x := wd L (i + 1)) (by omega)
    rw [sg_234_49]
    repeat (first | refine step_t (by with_reducible exact True.intro) ?_ | refine step_t (by omega) ?_ | refine step_f (by omega) ?_)
    refine step_c (e204) ?_
    try dsimp only
    (try simp (disch := omega) only [p107, e1, wr_id2])
    repeat (first | refine step_t (by with_reducible exact True.intro) ?_ | refine step_t (by omega) ?_ | refine step_f (by omega) ?_)
    refine step_c (q209) ?_
    try dsimp only
    (try simp (disch := omega) only [wr_id2])
    by_cases zv : v = 1
    · rw [if_pos zv, if_pos zv] at q
      refine step_f (by omega) ?_
      rw [sg_234_83]
      (try simp (disch := omega) only [wr_id2])
      by_cases za : ((pop (wd L i) : Nat) : Int) = l
      · refine step_f (by omega) ?_
        (try simp (disch := omega) only [p107, e2, wr_id2])
        repeat (first | refine step_t (by with_reducible exact True.intro) ?_ | refine step_t (by omega) ?_ | refine step_f (by omega) ?_)
        refine step_c (q210) ?_
        try dsimp only
        (try simp (disch := omega) only [wr_id2])
        refine step_f (by omega) ?_
        rw [sg_234_110]
        (try simp (disch := omega) only [wr_id2])
        by_cases zb : ((pop (wd L (i + 1)) : Nat) : Int) = l + 1
        · refine step_f (by omega) ?_
          rw [decide_eq_true za, decide_eq_true zb] at q
          rw [if_pos zv, if_pos zv]
          exact q
        · refine step_t (by omega) ?_
          rw [decide_eq_true za, decide_eq_false zb] at q
          rw [if_pos zv, if_pos zv]
          exact q
      · refine step_t (by omega) ?_
        rw [decide_eq_false za] at q
        rw [if_pos zv, if_pos zv]
        exact q
    · rw [if_neg zv, if_neg zv] at q
      refine step_t (by omega) ?_
      rw [sg_234_83]
      (try simp (disch := omega) only [wr_id2])
      by_cases za : ((pop (wd L i) : Nat) : Int) = l + 1
      · refine step_f (by omega) ?_
        (try simp (disch := omega) only [p107, e2, wr_id2])
        repeat (first | refine step_t (by with_reducible exact True.intro) ?_ | refine step_t (by omega) ?_ | refine step_f (by omega) ?_)
        refine step_c (q210) ?_
        try dsimp only
        (try simp (disch := omega) only [wr_id2])
        refine step_t (by omega) ?_
        rw [sg_234_110]
        (try simp (disch := omega) only [wr_id2])
        by_cases zb : ((pop (wd L (i + 1)) : Nat) : Int) = l
        · refine step_f (by omega) ?_
          rw [decide_eq_true za, decide_eq_true zb] at q
          rw [if_neg zv, if_neg zv]
          exact q
        · refine step_t (by omega) ?_
          rw [decide_eq_true za, decide_eq_false zb] at q
          rw [if_neg zv, if_neg zv]
          exact q
      · refine step_t (by omega) ?_
        rw [decide_eq_false za] at q
        rw [if_neg zv, if_neg zv]
        exact q
theorem m234 (S : AS) {s l v : Int} (hs : i32 s) (hx : i32 l) (hv : i32 v) : mOp 234 [vI s, vI l, vI v] S (qA S s (clbQ l v), S) := by
  intro d σ h hy ht hm
  obtain ⟨d, rfl⟩ := ob1 (show 1 ≤ d by omega)
  have y1 := hy.1; have k101 := y101_m1 hy; have p102 := y101_0 hy; have k102 := y102_m1 hy; have l102 := y102_m2 hy; have p107 := y101_15 hy; have k107 := y107_m1 hy; have l107 := y107_m2 hy; have p108 := y101_16 hy; have k108 := y108_m1 hy; have l108 := y108_m2 hy
  unfold qA
  cases e : gl S s with
  | none =>
    refine ⟨σ, ?_, (FM.rf hy).fl, hm⟩
    rw [ce_234, sg_234_0]
    repeat (first | refine step_t (by with_reducible exact True.intro) ?_ | refine step_t (by omega) ?_ | refine step_f (by omega) ?_)
    refine step_c (s180n (by omega) hy hm hs e) ?_
    try dsimp only
    (try simp (disch := omega) only [wr_id2])
    repeat (first | refine step_t (by with_reducible exact True.intro) ?_ | refine step_t (by omega) ?_ | refine step_f (by omega) ?_)
    rw [sg_234_35]
  | some L =>
    have e180 := s180s (d := d) (by omega) hy hm hs e
    obtain ⟨n, rfl, hn, hr, hw, en⟩ := hm.got e
    have h9 := hw.1.1
    have h1N := hw.2.1
    have e207 := s207 (d := d) (by omega) hy hn hr
    have e1 := s179 (d := d) (by omega) σ hx (y := 0) (z := (lN0 L : Nat) - 1) ⟨by decide, by decide⟩ ⟨by omega, by omega⟩
    have e2 := s179 (d := d) (by omega) σ hv (y := 0) (z := 1) ⟨by decide, by decide⟩ ⟨by decide, by decide⟩
    have wx := hx.wr
    have wv := hv.wr
    dsimp only
    unfold clbQ
    by_cases z : 0 ≤ l ∧ l < lN0 L
    · rw [decide_eq_true (show 0 ≤ l ∧ l ≤ (lN0 L : Nat) - 1 by omega)] at e1
      rw [if_pos z]
      by_cases z2 : 0 ≤ v ∧ v ≤ 1
      · rw [decide_eq_true z2] at e2
        rw [if_pos z2]
        obtain ⟨σ1, k1, k2, k3, k4⟩ := s203 (d := d) (by omega) hy hn hr hw.1
        refine ⟨σ1, ?_, k2.ml, k2.mr hm⟩
        rw [ce_234, sg_234_0]
        repeat (first | refine step_t (by with_reducible exact True.intro) ?_ | refine step_t (by omega) ?_ | refine step_f (by omega) ?_)
        refine step_c (e180) ?_
        try dsimp only
        (try simp (disch := omega) only [wr_id2])
        repeat (first | refine step_t (by with_reducible exact True.intro) ?_ | refine step_t (by omega) ?_ | refine step_f (by omega) ?_)
        refine step_c (e207) ?_
        try dsimp only
        (try simp (disch := omega) only [wx, wv, wr_id2])
        refine step_c (e1) ?_
        try dsimp only
        rw [wr_b2i]
        refine step_f (show ¬ (b2i true = 0) by decide) ?_
        (try simp (disch := omega) only [wx, wv, wr_id2])
        refine step_c (e2) ?_
        try dsimp only
        rw [wr_b2i]
        refine step_t (show b2i true ≠ 0 by decide) ?_
        rw [sg_234_38]
        repeat (first | refine step_t (by with_reducible exact True.intro) ?_ | refine step_t (by omega) ?_ | refine step_f (by omega) ?_)
        refine step_c (k1) ?_
        try dsimp only
        exact s234l (d := d) (by omega) k2.2 hn k3 k4 hw.1 (l := l) (v := v) (by omega) (by omega) (by omega) (by omega) (lT L).length 0 (by omega)
      · rw [decide_eq_false z2] at e2
        rw [if_neg z2]
        refine ⟨σ, ?_, (FM.rf hy).fl, hm⟩
        rw [ce_234, sg_234_0]
        repeat (first | refine step_t (by with_reducible exact True.intro) ?_ | refine step_t (by omega) ?_ | refine step_f (by omega) ?_)
        refine step_c (e180) ?_
        try dsimp only
        (try simp (disch := omega) only [wr_id2])
        repeat (first | refine step_t (by with_reducible exact True.intro) ?_ | refine step_t (by omega) ?_ | refine step_f (by omega) ?_)
        refine step_c (e207) ?_
        try dsimp only
        (try simp (disch := omega) only [wx, wv, wr_id2])
        refine step_c (e1) ?_
        try dsimp only
        rw [wr_b2i]
        refine step_f (show ¬ (b2i true = 0) by decide) ?_
        (try simp (disch := omega) only [wx, wv, wr_id2])
        refine step_c (e2) ?_
        try dsimp only
        rw [wr_b2i]
        refine step_f (show ¬ (b2i false ≠ 0) by decide) ?_
        rw [sg_234_35]
    · rw [decide_eq_false (show ¬ (0 ≤ l ∧ l ≤ (lN0 L : Nat) - 1) by omega)] at e1
      rw [if_neg z]
      refine ⟨σ, ?_, (FM.rf hy).fl, hm⟩
      rw [ce_234, sg_234_0]
      repeat (first | refine step_t (by with_reducible exact True.intro) ?_ | refine step_t (by omega) ?_ | refine step_f (by omega) ?_)
      refine step_c (e180) ?_
      try dsimp only
      (try simp (disch := omega) only [wr_id2])
      repeat (first | refine step_t (by with_reducible exact True.intro) ?_ | refine step_t (by omega) ?_ | refine step_f (by omega) ?_)
      refine step_c (e207) ?_
      try dsimp only
      (try simp (disch := omega) only [wx, wv, wr_id2])
      refine step_c (e1) ?_
      try dsimp only
      rw [wr_b2i]
      refine step_t (show b2i false = 0 by decide) ?_
      rw [sg_234_35]
