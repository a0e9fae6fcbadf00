/-! EVENEST: the reference -/
theorem s257i {d : Nat} {σ : HP} (hy : Lay σ) {l : List Nat} (hl : mdR σ l) (hb : ∀ x ∈ l, x < 256) {n b : Nat} {p q : Int} : ∀ (m i a : Nat), i + m = l.length → b < 1000 → rsP PG0 MX d 257 21 [vR 101, vI n, vI p, vI q, vI b, vI a, vI i] [] σ = rsP PG0 MX d 257 21 [vR 101, vI n, vI p, vI q, vI b, vI ((a + cnB (l.drop i) b : Nat) : Int), vI (l.length : Nat)] [] σ := by
  have y1 := hy.1; have k101 := y101_m1 hy; have p105 := y101_4 hy; have k105 := y105_m1 hy; have l105 := y105_m2 hy
  obtain ⟨m1, m2, m3⟩ := hl
  intro m
  induction m with
  | zero =>
    intro i a hi hb2
    have e : i = l.length := by omega
    subst e
    rw [List.drop_length]
    rfl
  | succ m ih =>
    intro i a hi hb2
    have e := List.getElem?_eq_getElem (l := l) (i := i) (by omega)
    have g := m3 i _ e
    have g2 := hb _ (List.mem_of_getElem? e)
    have ed : l.drop i = l[i] :: l.drop (i + 1) := List.drop_eq_getElem_cons (by omega)
    have ec : cnB (l.drop i) b = (if l[i] = b then 1 else 0) + cnB (l.drop (i + 1)) b := by rw [ed]; rfl
    by_cases z : l[i] = b
    · rw [if_pos z] at ec
      have q := ih (i + 1) (a + 1) (by omega) hb2
      rw [show a + 1 + cnB (l.drop (i + 1)) b = a + cnB (l.drop i) b by omega] at q
      rw [← q, sg_257_21]
      (try simp (disch := omega) only [m1, p105, g, wr_id2])
      repeat (first | ((with_reducible refine step_t ?_ ?_); with_reducible exact True.intro) | ((with_reducible refine step_t ?_ ?_); omega) | ((with_reducible refine step_f ?_ ?_); omega))
      rfl
    · rw [if_neg z] at ec
      have q := ih (i + 1) a (by omega) hb2
      rw [show a + cnB (l.drop (i + 1)) b = a + cnB (l.drop i) b by omega] at q
      rw [← q, sg_257_21]
      (try simp (disch := omega) only [m1, p105, g, wr_id2])
      repeat (first | ((with_reducible refine step_t ?_ ?_); with_reducible exact True.intro) | ((with_reducible refine step_t ?_ ?_); omega) | ((with_reducible refine step_f ?_ ?_); omega))
      rw [Int.add_zero]
      rfl
theorem s257l {d : Nat} (h : 6 ≤ d) {σ : HP} (hy : Lay σ) {l : List Nat} (hl : mdR σ l) (hb : ∀ x ∈ l, x < 256) {n : Nat} (hn : n ≤ 10) : ∀ (m b p q : Nat) (u5 u6 : MV), b + m = n → p ≤ 1000 → q ≤ 1000 → rsP PG0 MX d 257 9 [vR 101, vI n, vI p, vI q, vI b, u5, u6] [] σ = some (((mxF (cnB l) m b p : Nat) : Int) - ((mnF (cnB l) m b q : Nat) : Int), σ) := by
  have y1 := hy.1; have k101 := y101_m1 hy; have p105 := y101_4 hy; have k105 := y105_m1 hy; have l105 := y105_m2 hy
  have m2 : l.length ≤ 600 := by have := hl.2.1; omega
  have m1 := hl.1
  intro m
  induction m with
  | zero =>
    intro b p q u5 u6 hb2 hp hq
    rw [sg_257_9]
    (try simp (disch := omega) only [wr_id2])
    repeat (first | ((with_reducible refine step_t ?_ ?_); with_reducible exact True.intro) | ((with_reducible refine step_t ?_ ?_); omega) | ((with_reducible refine step_f ?_ ?_); omega))
    rfl
  | succ m ih =>
    intro b p q u5 u6 hb2 hp hq
    have cl := cnB_le b l
    have e := s257i (d := d) hy hl hb (n := n) (b := b) (p := (p : Nat)) (q := (q : Nat)) l.length 0 0 (by omega) (by omega)
    rw [List.drop_zero, Nat.zero_add] at e
    have pm := p_max (d := d) h σ (p : Int) ((cnB l b : Nat) : Int)
    have pn := p_min (d := d) h σ (q : Int) ((cnB l b : Nat) : Int)
    have em : (if wr (p : Int) < wr ((cnB l b : Nat) : Int) then ((cnB l b : Nat) : Int) else (p : Int)) = ((max p (cnB l b) : Nat) : Int) := by
      rw [wr_id2 (by omega), wr_id2 (by omega)]
      by_cases z : (p : Int) < ((cnB l b : Nat) : Int)
      · rw [if_pos z]; omega
      · rw [if_neg z]; omega
    have en : (if wr ((cnB l b : Nat) : Int) < wr (q : Int) then ((cnB l b : Nat) : Int) else (q : Int)) = ((min q (cnB l b) : Nat) : Int) := by
      rw [wr_id2 (by omega), wr_id2 (by omega)]
      by_cases z : ((cnB l b : Nat) : Int) < (q : Int)
      · rw [if_pos z]; omega
      · rw [if_neg z]; omega
    rw [em] at pm
    rw [en] at pn
    have g := ih (b + 1) (max p (cnB l b)) (min q (cnB l b)) (vI ((cnB l b : Nat) : Int)) (vI (l.length : Nat)) (by omega) (by omega) (by omega)
    rw [sg_257_9]
    (try simp (disch := omega) only [wr_id2])
    repeat (first | ((with_reducible refine step_t ?_ ?_); with_reducible exact True.intro) | ((with_reducible refine step_t ?_ ?_); omega) | ((with_reducible refine step_f ?_ ?_); omega))
    refine Eq.trans e ?_
    rw [sg_257_21]
    (try simp (disch := omega) only [m1, wr_id2])
    repeat (first | ((with_reducible refine step_t ?_ ?_); with_reducible exact True.intro) | ((with_reducible refine step_t ?_ ?_); omega) | ((with_reducible refine step_f ?_ ?_); omega))
    refine step_c (pm) ?_
    try dsimp only
    refine step_c (pn) ?_
    try dsimp only
    exact g
theorem s257 {d : Nat} (h : 7 ≤ d) {σ : HP} (hy : Lay σ) {l : List Nat} (hl : mdR σ l) (hb : ∀ x ∈ l, x < 256) {n : Nat} (hn : n ≤ 10) : clR PG0 MX d 257 [vR 101, vI n] σ = some (((mxF (cnB l) n 0 0 : Nat) : Int) - ((mnF (cnB l) n 0 1000 : Nat) : Int), σ) := by
  obtain ⟨d, rfl⟩ := ob1 (show 1 ≤ d by omega)
  rw [ce_257, sg_257_0]
  exact s257l (d := d) (by omega) hy hl hb hn n 0 0 1000 vU vU (by omega) (by omega) (by omega)
theorem pop_pc {c : Nat} : pop c = pcN 16 c := by
  have e : pop c = 0 + c / 2 ^ 0 % 2 + c / 2 ^ 1 % 2 + c / 2 ^ 2 % 2 + c / 2 ^ 3 % 2 + c / 2 ^ 4 % 2 + c / 2 ^ 5 % 2 + c / 2 ^ 6 % 2 + c / 2 ^ 7 % 2 + c / 2 ^ 8 % 2 + c / 2 ^ 9 % 2 + c / 2 ^ 10 % 2 + c / 2 ^ 11 % 2 + c / 2 ^ 12 % 2 + c / 2 ^ 13 % 2 + c / 2 ^ 14 % 2 + c / 2 ^ 15 % 2 := rfl
  have st : ∀ n i, pcN (n + 1) (c / 2 ^ i) = c / 2 ^ i % 2 + pcN n (c / 2 ^ (i + 1)) := fun n i => by
    rw [div_s]
    rfl
  have e0 := st 15 0
  rw [Nat.pow_zero, Nat.div_one] at e0
  rw [e, e0, st 14 1, st 13 2, st 12 3, st 11 4, st 10 5, st 9 6, st 8 7, st 7 8, st 6 9, st 5 10, st 4 11, st 3 12, st 2 13, st 1 14, st 0 15, Nat.pow_zero, Nat.div_one]
  show _ = _ + (_ + (_ + (_ + (_ + (_ + (_ + (_ + (_ + (_ + (_ + (_ + (_ + (_ + (_ + (_ + 0)))))))))))))))
  simp only [Nat.add_assoc, Nat.add_zero, Nat.zero_add]
theorem pc_lo {m n c : Nat} (h : m ≤ n) (hc : c < 2 ^ m) : pcN n c = pcN m c := by
  have e := pc_add m (n - m) 0 c hc
  rw [Nat.mul_zero, Nat.zero_add, pc_z, Nat.add_zero, show m + (n - m) = n by omega] at e
  exact e
theorem ex_b {L : LB} (hw : wf0 L) {c : Int} : ∀ x ∈ exL L c, x < 256 := fun x hx => by
  have h9 := hw.1
  have hx : x ∈ exP L c (lT L).length 0 0 (lN0 L) (lN0 L + 1) ++ [lN0 L] ++ (slc L 0 ((lT L).length - 1)).reverse ++ [lN0 L + 1] := hx
  simp only [List.mem_append, List.mem_reverse, List.mem_singleton] at hx
  rcases hx with ((hx | hx) | hx) | hx
  · have := exP_mem hw _ _ _ _ _ x (by omega) (by omega) hx; omega
  · omega
  · have := slc_mem hw hx; omega
  · omega
theorem s256l {d : Nat} (h : 12 ≤ d) {σ0 : HP} {n : Nat} (hn : n < 3) {L : LB} (hr0 : slR σ0 n L) (hw : wf0 L) (h1 : 1 ≤ (lT L).length) (h16 : (lT L).length ≤ 16) {x : Int} (hx : x = 0 ∨ x = 1) : ∀ (m c b l : Nat) (σ : HP) (u6 : MV), c + m = 2 ^ ((lT L).length - 1) → b < 32768 → l ≤ 1000 → FQ σ0 σ → ∃ σ', rsP PG0 MX d 256 58 [vR 101, vI n, vI x, vI b, vI l, vI c, u6] [] σ = some ((if x = 0 then (((amn (evE L) (unC L) m c b l).2 : Nat) : Int) else ((amn (evE L) (unC L) m c b l).1 : Nat)), σ') ∧ FQ σ0 σ' := by
  have p15 := pow15 (n := (lT L).length - 1) (by omega)
  have h9 := hw.1
  have esh : i_shl 1 (((lT L).length : Int) - 1) = ((2 ^ ((lT L).length - 1) : Nat) : Int) := by
    rw [show ((lT L).length : Int) - 1 = (((lT L).length - 1 : Nat) : Int) by omega]
    exact shl1 (by omega)
  intro m
  induction m with
  | zero =>
    intro c b l σ u6 hc hb hl hF
    have hy := hF.2
    have y1 := hy.1; have k101 := y101_m1 hy
    have hr := hF.slr hr0
    have e204 := s204 (d := d) (by omega) hy hn hr
    refine ⟨σ, ?_, hF⟩
    show _ = some ((if x = 0 then ((l : Nat) : Int) else ((b : Nat) : Int)), σ)
    rcases hx with hx | hx
    · rw [if_pos hx, hx, sg_256_58]
      repeat (first | ((with_reducible refine step_t ?_ ?_); with_reducible exact True.intro) | ((with_reducible refine step_t ?_ ?_); omega) | ((with_reducible refine step_f ?_ ?_); omega))
      refine step_c (e204) ?_
      try dsimp only
      rw [esh]
      (try simp (disch := omega) only [wr_id2])
      repeat (first | ((with_reducible refine step_t ?_ ?_); with_reducible exact True.intro) | ((with_reducible refine step_t ?_ ?_); omega) | ((with_reducible refine step_f ?_ ?_); omega))
      rfl
    · rw [if_neg (by omega), hx, sg_256_58]
      repeat (first | ((with_reducible refine step_t ?_ ?_); with_reducible exact True.intro) | ((with_reducible refine step_t ?_ ?_); omega) | ((with_reducible refine step_f ?_ ?_); omega))
      refine step_c (e204) ?_
      try dsimp only
      rw [esh]
      (try simp (disch := omega) only [wr_id2])
      repeat (first | ((with_reducible refine step_t ?_ ?_); with_reducible exact True.intro) | ((with_reducible refine step_t ?_ ?_); omega) | ((with_reducible refine step_f ?_ ?_); omega))
      rfl
  | succ m ih =>
    intro c b l σ u6 hc hb hl hF
    have hy := hF.2
    have y1 := hy.1; have k101 := y101_m1 hy
    have hr := hF.slr hr0
    have e204 := s204 (d := d) (by omega) hy hn hr
    have e209 := s209 (d := d) (by omega) σ (x := c) (by omega)
    rw [pop_pc, pc_lo (m := (lT L).length - 1) (by omega) (by omega)] at e209
    have p16 := pc_64 ((lT L).length - 1) c
    have er := i_rem_n (a := pcN ((lT L).length - 1) c) (b := 2) (by omega) (by omega) (by omega)
    have er : i_rem ((pcN ((lT L).length - 1) c : Nat) : Int) 2 = ((pcN ((lT L).length - 1) c % 2 : Nat) : Int) := er
    have ea : amn (evE L) (unC L) (m + 1) c b l = if evE L c = true ∧ unC L c < l then amn (evE L) (unC L) m (c + 1) c (unC L c) else amn (evE L) (unC L) m (c + 1) b l := rfl
    by_cases zp : pcN ((lT L).length - 1) c % 2 = 0
    · obtain ⟨σ1, k1, D1⟩ := s253 (d := d) (by omega) hy hn hr hw h1 (by omega) (c := (c : Int)) (by rw [lu_n (by omega)]; omega)
      have F1 : FQ σ0 σ1 := hF.tr D1.1.fq
      have hy1 := F1.2
      have y1b := hy1.1; have k101b := y101_m1 hy1
      have e207 := s207 (d := d) (by omega) hy1 hn (F1.slr hr0)
      have e257 := s257 (d := d) (by omega) hy1 D1.2 (ex_b hw) (n := lN0 L + 2) (by omega)
      have h256 : unC L c < 256 := by
        rw [unC_v hw h1 (by omega)]
        exact unV_lt hw h16 (fun y => kc_le y _ _ _ (by omega))
      have eU : ((mxF (cnB (exL L c)) (lN0 L + 2) 0 0 : Nat) : Int) - ((mnF (cnB (exL L c)) (lN0 L + 2) 0 1000 : Nat) : Int) = ((unC L c : Nat) : Int) := by
        obtain ⟨q1, q2⟩ := un_two hw h1 (c := c) (by omega)
        have mG := mxF_ge (fun y => 4 * tlF L y - 2 * kcF L ((lT L).length - 1) 0 c y) (lN0 L) 0 (sF (kcF L ((lT L).length - 1) 0 c) (lN0 L) 0 + 2)
        have mL := mnF_le (fun y => 4 * tlF L y - 2 * kcF L ((lT L).length - 1) 0 c y) (lN0 L) 0 (sF (kcF L ((lT L).length - 1) 0 c) (lN0 L) 0 + 2)
        unfold unC
        omega
      rw [eU] at e257
      have e257 : clR PG0 MX d 257 [vR 101, vI ((lN0 L : Nat) + 2 : Int)] σ1 = some (((unC L c : Nat) : Int), σ1) := e257
      have wc : wr (c : Int) = c := wr_id2 (by omega)
      by_cases zl : unC L c < l
      · rw [if_pos ⟨decide_eq_true zp, zl⟩] at ea
        obtain ⟨σ2, k2, F2⟩ := ih (c + 1) c (unC L c) σ1 vU (by omega) (by omega) (by omega) F1
        rw [ea]
        refine ⟨σ2, ?_, F2⟩
        rw [sg_256_58]
        repeat (first | ((with_reducible refine step_t ?_ ?_); with_reducible exact True.intro) | ((with_reducible refine step_t ?_ ?_); omega) | ((with_reducible refine step_f ?_ ?_); omega))
        refine step_c (e204) ?_
        try dsimp only
        rw [esh]
        (try simp (disch := omega) only [wr_id2])
        repeat (first | ((with_reducible refine step_t ?_ ?_); with_reducible exact True.intro) | ((with_reducible refine step_t ?_ ?_); omega) | ((with_reducible refine step_f ?_ ?_); omega))
        refine step_c (e209) ?_
        try dsimp only
        rw [er]
        (try simp (disch := omega) only [wr_id2])
        repeat (first | ((with_reducible refine step_t ?_ ?_); with_reducible exact True.intro) | ((with_reducible refine step_t ?_ ?_); omega) | ((with_reducible refine step_f ?_ ?_); omega))
        refine step_c (k1) ?_
        try dsimp only
        repeat (first | ((with_reducible refine step_t ?_ ?_); with_reducible exact True.intro) | ((with_reducible refine step_t ?_ ?_); omega) | ((with_reducible refine step_f ?_ ?_); omega))
        refine step_c (e207) ?_
        try dsimp only
        repeat (first | ((with_reducible refine step_t ?_ ?_); with_reducible exact True.intro) | ((with_reducible refine step_t ?_ ?_); omega) | ((with_reducible refine step_f ?_ ?_); omega))
        refine step_c (e257) ?_
        try dsimp only
        rw [sg_256_107]
        (try simp (disch := omega) only [wr_id2])
        repeat (first | ((with_reducible refine step_t ?_ ?_); with_reducible exact True.intro) | ((with_reducible refine step_t ?_ ?_); omega) | ((with_reducible refine step_f ?_ ?_); omega))
        exact k2
      · rw [if_neg (fun w => zl w.2)] at ea
        obtain ⟨σ2, k2, F2⟩ := ih (c + 1) b l σ1 vU (by omega) hb hl F1
        rw [ea]
        refine ⟨σ2, ?_, F2⟩
        rw [sg_256_58]
        repeat (first | ((with_reducible refine step_t ?_ ?_); with_reducible exact True.intro) | ((with_reducible refine step_t ?_ ?_); omega) | ((with_reducible refine step_f ?_ ?_); omega))
        refine step_c (e204) ?_
        try dsimp only
        rw [esh]
        (try simp (disch := omega) only [wr_id2])
        repeat (first | ((with_reducible refine step_t ?_ ?_); with_reducible exact True.intro) | ((with_reducible refine step_t ?_ ?_); omega) | ((with_reducible refine step_f ?_ ?_); omega))
        refine step_c (e209) ?_
        try dsimp only
        rw [er]
        (try simp (disch := omega) only [wr_id2])
        repeat (first | ((with_reducible refine step_t ?_ ?_); with_reducible exact True.intro) | ((with_reducible refine step_t ?_ ?_); omega) | ((with_reducible refine step_f ?_ ?_); omega))
        refine step_c (k1) ?_
        try dsimp only
        repeat (first | ((with_reducible refine step_t ?_ ?_); with_reducible exact True.intro) | ((with_reducible refine step_t ?_ ?_); omega) | ((with_reducible refine step_f ?_ ?_); omega))
        refine step_c (e207) ?_
        try dsimp only
        repeat (first | ((with_reducible refine step_t ?_ ?_); with_reducible exact True.intro) | ((with_reducible refine step_t ?_ ?_); omega) | ((with_reducible refine step_f ?_ ?_); omega))
        refine step_c (e257) ?_
        try dsimp only
        rw [sg_256_107]
        (try simp (disch := omega) only [wr_id2])
        repeat (first | ((with_reducible refine step_t ?_ ?_); with_reducible exact True.intro) | ((with_reducible refine step_t ?_ ?_); omega) | ((with_reducible refine step_f ?_ ?_); omega))
        exact k2
    · rw [if_neg (fun w => zp (of_decide_eq_true w.1))] at ea
      obtain ⟨σ2, k2, F2⟩ := ih (c + 1) b l σ vU (by omega) hb hl hF
      rw [ea]
      refine ⟨σ2, ?_, F2⟩
      rw [sg_256_58]
      repeat (first | ((with_reducible refine step_t ?_ ?_); with_reducible exact True.intro) | ((with_reducible refine step_t ?_ ?_); omega) | ((with_reducible refine step_f ?_ ?_); omega))
      refine step_c (e204) ?_
      try dsimp only
      rw [esh]
      (try simp (disch := omega) only [wr_id2])
      repeat (first | ((with_reducible refine step_t ?_ ?_); with_reducible exact True.intro) | ((with_reducible refine step_t ?_ ?_); omega) | ((with_reducible refine step_f ?_ ?_); omega))
      refine step_c (e209) ?_
      try dsimp only
      rw [er]
      (try simp (disch := omega) only [wr_id2])
      repeat (first | ((with_reducible refine step_t ?_ ?_); with_reducible exact True.intro) | ((with_reducible refine step_t ?_ ?_); omega) | ((with_reducible refine step_f ?_ ?_); omega))
      exact k2
theorem m256 (S : AS) {s x : Int} (hs : i32 s) (hx : i32 x) : mOp 256 [vI s, vI x] S (qA S s (evQ x), S) := by
  intro d σ h hy ht hm
  obtain ⟨d, rfl⟩ := ob1 (show 1 ≤ d by omega)
  have y1 := hy.1; have k101 := y101_m1 hy; have p102 := y101_0 hy; have k102 := y102_m1 hy; have l102 := y102_m2 hy; have p107 := y101_15 hy; have k107 := y107_m1 hy; have l107 := y107_m2 hy; have p108 := y101_16 hy; have k108 := y108_m1 hy; have l108 := y108_m2 hy
  unfold qA
  cases e : gl S s with
  | none =>
    refine ⟨σ, ?_, (FM.rf hy).fl, hm⟩
    rw [ce_256, sg_256_0]
    repeat (first | ((with_reducible refine step_t ?_ ?_); with_reducible exact True.intro) | ((with_reducible refine step_t ?_ ?_); omega) | ((with_reducible refine step_f ?_ ?_); omega))
    refine step_c (s180n (by omega) hy hm hs e) ?_
    try dsimp only
    (try simp (disch := omega) only [wr_id2])
    repeat (first | ((with_reducible refine step_t ?_ ?_); with_reducible exact True.intro) | ((with_reducible refine step_t ?_ ?_); omega) | ((with_reducible refine step_f ?_ ?_); omega))
    rfl
  | some L =>
    have e180 := s180s (d := d) (by omega) hy hm hs e
    obtain ⟨n, rfl, hn, hr, hw, en⟩ := hm.got e
    have hl := wf_len hw.1
    have h9 := hw.1.1
    have h1N := hw.2.1
    have hp8 := pow8 hw.1.1
    have hp0 := Nat.two_pow_pos (lN0 L)
    have hsh := shN_le L
    dsimp only
    have x1 := hx.1
    have x2 := hx.2
    have wx := hx.wr
    have e179 := s179 (d := d) (by omega) σ hx (y := 0) (z := 1) ⟨by decide, by decide⟩ ⟨by decide, by decide⟩
    have e204 := s204 (d := d) (by omega) hy hn hr
    obtain ⟨σ1, k1, F1⟩ := s252 (d := d) (by omega) hy hn hr hw.1
    unfold evQ
    by_cases z : 0 ≤ x ∧ x ≤ 1
    · rw [decide_eq_true z] at e179
      rw [if_pos z]
      by_cases z16 : (lT L).length ≤ 16
      · rw [if_pos z16]
        cases zw : wlB L with
        | false =>
          rw [zw] at k1
          rw [if_neg (by decide)]
          refine ⟨σ1, ?_, F1.fm.fl, F1.mr hm⟩
          rw [ce_256, sg_256_0]
          repeat (first | ((with_reducible refine step_t ?_ ?_); with_reducible exact True.intro) | ((with_reducible refine step_t ?_ ?_); omega) | ((with_reducible refine step_f ?_ ?_); omega))
          refine step_c (e180) ?_
          try dsimp only
          (try simp (disch := omega) only [wx, wr_id2])
          repeat (first | ((with_reducible refine step_t ?_ ?_); with_reducible exact True.intro) | ((with_reducible refine step_t ?_ ?_); omega) | ((with_reducible refine step_f ?_ ?_); omega))
          refine step_c (e179) ?_
          try dsimp only
          rw [wr_b2i]
          refine step_t (show b2i true ≠ 0 by decide) ?_
          repeat (first | ((with_reducible refine step_t ?_ ?_); with_reducible exact True.intro) | ((with_reducible refine step_t ?_ ?_); omega) | ((with_reducible refine step_f ?_ ?_); omega))
          refine step_c (e204) ?_
          try dsimp only
          (try simp (disch := omega) only [wr_id2])
          repeat (first | ((with_reducible refine step_t ?_ ?_); with_reducible exact True.intro) | ((with_reducible refine step_t ?_ ?_); omega) | ((with_reducible refine step_f ?_ ?_); omega))
          refine step_c (k1) ?_
          try dsimp only
          rw [wr_b2i]
          refine step_f (show ¬ (b2i false ≠ 0) by decide) ?_
          rw [sg_256_44]
        | true =>
          rw [zw] at k1
          rw [if_pos rfl]
          obtain ⟨w1, w2⟩ := wl_len hw.1 zw
          obtain ⟨σ2, k2, F2⟩ := s256l (d := d) (by omega) hn (F1.slr hr) hw.1 w1 z16 (x := x) (by omega) (2 ^ ((lT L).length - 1)) 0 0 1000 σ1 vU (by omega) (by omega) (by omega) (FQ.rf F1.2)
          have F3 := F1.tr F2
          refine ⟨σ2, ?_, F3.fm.fl, F3.mr hm⟩
          rw [ce_256, sg_256_0]
          repeat (first | ((with_reducible refine step_t ?_ ?_); with_reducible exact True.intro) | ((with_reducible refine step_t ?_ ?_); omega) | ((with_reducible refine step_f ?_ ?_); omega))
          refine step_c (e180) ?_
          try dsimp only
          (try simp (disch := omega) only [wx, wr_id2])
          repeat (first | ((with_reducible refine step_t ?_ ?_); with_reducible exact True.intro) | ((with_reducible refine step_t ?_ ?_); omega) | ((with_reducible refine step_f ?_ ?_); omega))
          refine step_c (e179) ?_
          try dsimp only
          rw [wr_b2i]
          refine step_t (show b2i true ≠ 0 by decide) ?_
          repeat (first | ((with_reducible refine step_t ?_ ?_); with_reducible exact True.intro) | ((with_reducible refine step_t ?_ ?_); omega) | ((with_reducible refine step_f ?_ ?_); omega))
          refine step_c (e204) ?_
          try dsimp only
          (try simp (disch := omega) only [wr_id2])
          repeat (first | ((with_reducible refine step_t ?_ ?_); with_reducible exact True.intro) | ((with_reducible refine step_t ?_ ?_); omega) | ((with_reducible refine step_f ?_ ?_); omega))
          refine step_c (k1) ?_
          try dsimp only
          rw [wr_b2i]
          refine step_t (show b2i true ≠ 0 by decide) ?_
          rw [sg_256_48]
          exact k2
      · rw [if_neg z16]
        refine ⟨σ, ?_, (FM.rf hy).fl, hm⟩
        rw [ce_256, sg_256_0]
        repeat (first | ((with_reducible refine step_t ?_ ?_); with_reducible exact True.intro) | ((with_reducible refine step_t ?_ ?_); omega) | ((with_reducible refine step_f ?_ ?_); omega))
        refine step_c (e180) ?_
        try dsimp only
        (try simp (disch := omega) only [wx, wr_id2])
        repeat (first | ((with_reducible refine step_t ?_ ?_); with_reducible exact True.intro) | ((with_reducible refine step_t ?_ ?_); omega) | ((with_reducible refine step_f ?_ ?_); omega))
        refine step_c (e179) ?_
        try dsimp only
        rw [wr_b2i]
        refine step_t (show b2i true ≠ 0 by decide) ?_
        repeat (first | ((with_reducible refine step_t ?_ ?_); with_reducible exact True.intro) | ((with_reducible refine step_t ?_ ?_); omega) | ((with_reducible refine step_f ?_ ?_); omega))
        refine step_c (e204) ?_
        try dsimp only
        (try simp (disch := omega) only [wr_id2])
        repeat (first | ((with_reducible refine step_t ?_ ?_); with_reducible exact True.intro) | ((with_reducible refine step_t ?_ ?_); omega) | ((with_reducible refine step_f ?_ ?_); omega))
        rfl
    · rw [decide_eq_false z] at e179
      rw [if_neg z]
      refine ⟨σ, ?_, (FM.rf hy).fl, hm⟩
      rw [ce_256, sg_256_0]
      repeat (first | ((with_reducible refine step_t ?_ ?_); with_reducible exact True.intro) | ((with_reducible refine step_t ?_ ?_); omega) | ((with_reducible refine step_f ?_ ?_); omega))
      refine step_c (e180) ?_
      try dsimp only
      (try simp (disch := omega) only [wx, wr_id2])
      repeat (first | ((with_reducible refine step_t ?_ ?_); with_reducible exact True.intro) | ((with_reducible refine step_t ?_ ?_); omega) | ((with_reducible refine step_f ?_ ?_); omega))
      refine step_c (e179) ?_
      try dsimp only
      rw [wr_b2i]
      refine step_f (show ¬ (b2i false ≠ 0) by decide) ?_
      rfl
