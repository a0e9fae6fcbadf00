/-! MAKING LISTS BY RULES: the reference -/
theorem drop_c {l : List Nat} {i x : Nat} (h : l[i]? = some x) : l.drop i = x :: l.drop (i + 1) := by
  have hi : i < l.length := (List.getElem?_eq_some_iff.mp h).1
  rw [List.drop_eq_getElem_cons hi]
  have := List.getElem?_eq_getElem (l := l) (i := i) hi
  rw [h] at this
  rw [Option.some.inj this]
theorem DM.len {σ0 σ : HP} {l : List Nat} (h : DM σ0 σ l) : σ 101 5 = (l.length : Nat) := h.2.1
/-- what is made comes into the slot -/
theorem dm_ch {d : Nat} (h : 4 ≤ d) {σ σ1 : HP} {S : AS} (hm : MM σ S) {n : Nat} (hn : n < 3) {L : LB} (en : S.sl n = some L) {l : List Nat} (hD : DM σ σ1 l) {x : Nat} (hw : wfL (dlL L x l)) (v : Int) : ∃ σ', clR PG0 MX d 245 [vR 101, vI n, vI x, vI v] σ1 = some (v, σ') ∧ FM σ σ' ∧ MM σ' (setl S n (some (dlL L x l))) := by
  obtain ⟨σ2, j1, j2, j3⟩ := s245 (d := d) h hD.1.2 (hD.1.fq.mr hm) hn en hD.2 hw v
  exact ⟨σ2, j1, hD.1.fq.fm.tr j2, j3⟩
/-- makes -/
theorem s244r {d : Nat} (h : 2 ≤ d) {σ0 : HP} {n N : Nat} (hN : N ≤ 8) (h1 : 1 ≤ N) : ∀ (m i : Nat) (σ : HP) (l : List Nat) (u2 : MV), 0 < i → i + m = 2 ^ N → DM σ0 σ l → l.length + m + 1 ≤ 600 → ∃ σ', rsP PG0 MX d 244 59 [vR 101, vI n, u2, vI N, vI i] [] σ = rsP PG0 MX d 244 163 [vR 101, vI n, vU, vI N, vI ((2 ^ N : Nat) : Int)] [] σ' ∧ DM σ0 σ' (l ++ (rflF m i ++ [N - 1])) := by
  have h8 := pow8 hN
  intro m
  induction m with
  | zero =>
    intro i σ l u2 h0 hi hD hl
    have hy := hD.1.2
    have y1 := hy.1; have k101 := y101_m1 hy
    obtain ⟨σ1, k1, D1⟩ := dm_push (d := d) (by omega) hD (by omega) (N - 1)
    rw [show ((N - 1 : Nat) : Int) = (N : Nat) - 1 by omega] at k1
    refine ⟨σ1, ?_, D1⟩
    rw [sg_244_59, shl1 (show N < 31 by omega), show i = 2 ^ N by omega]
    (try simp (disch := omega) only [wr_id2])
    repeat (first | ((with_reducible refine step_t ?_ ?_); with_reducible exact True.intro) | ((with_reducible refine step_t ?_ ?_); omega) | ((with_reducible refine step_f ?_ ?_); omega))
    refine step_c (k1) ?_
    try dsimp only
  | succ m ih =>
    intro i σ l u2 h0 hi hD hl
    have hy := hD.1.2
    have y1 := hy.1; have k101 := y101_m1 hy
    obtain ⟨σ1, k1, D1⟩ := dm_push (d := d) (by omega) hD (by omega) (lowN 31 i)
    obtain ⟨σ2, j1, D2⟩ := ih (i + 1) σ1 (l ++ [lowN 31 i]) vU (by omega) (by omega) D1 (by rw [List.length_append]; show l.length + 1 + m + 1 ≤ 600; omega)
    have ed : l ++ (rflF (m + 1) i ++ [N - 1]) = l ++ [lowN 31 i] ++ (rflF m (i + 1) ++ [N - 1]) := by
      show l ++ (lowN 31 i :: rflF m (i + 1) ++ [N - 1]) = _
      simp only [List.append_assoc, List.cons_append, List.nil_append]
    rw [ed]
    refine ⟨σ2, ?_, D2⟩
    rw [sg_244_59, shl1 (show N < 31 by omega)]
    (try simp (disch := omega) only [wr_id2])
    repeat (first | ((with_reducible refine step_t ?_ ?_); with_reducible exact True.intro) | ((with_reducible refine step_t ?_ ?_); omega) | ((with_reducible refine step_f ?_ ?_); omega))
    refine step_c (s243 (by omega) σ h0 (by omega)) ?_
    try dsimp only
    repeat (first | ((with_reducible refine step_t ?_ ?_); with_reducible exact True.intro) | ((with_reducible refine step_t ?_ ?_); omega) | ((with_reducible refine step_f ?_ ?_); omega))
    refine step_c (k1) ?_
    try dsimp only
    exact j1
theorem s244l {d : Nat} (h : 2 ≤ d) {σ0 : HP} {n N : Nat} (hN : N ≤ 8) (h1 : 1 ≤ N) : ∀ (m i : Nat) (σ : HP) (l : List Nat) (u2 : MV), i + m = 2 * N → DM σ0 σ l → l.length + m ≤ 600 → ∃ σ', rsP PG0 MX d 244 100 [vR 101, vI n, u2, vI N, vI i] [] σ = rsP PG0 MX d 244 163 [vR 101, vI n, vU, vI N, vI ((2 * N : Nat) : Int)] [] σ' ∧ DM σ0 σ' (l ++ (List.range' 0 N ++ List.range' 0 N).drop i) := by
  intro m
  induction m with
  | zero =>
    intro i σ l u2 hi hD hl
    refine ⟨σ, ?_, by rw [List.drop_eq_nil_of_le (by rw [List.length_append, List.length_range']; omega), List.append_nil]; exact hD⟩
    rw [sg_244_100]
    have ei : (i : Int) = 2 * (N : Int) := by omega
    rw [ei]
    refine step_t (Int.le_refl _) ?_
    rfl
  | succ m ih =>
    intro i σ l u2 hi hD hl
    have hy := hD.1.2
    have y1 := hy.1; have k101 := y101_m1 hy
    have er : i_rem (i : Int) (N : Int) = ((i % N : Nat) : Int) := i_rem_n (by omega) (by omega) (by omega)
    obtain ⟨σ1, k1, D1⟩ := dm_push (d := d) (by omega) hD (by omega) (i % N)
    obtain ⟨σ2, j1, D2⟩ := ih (i + 1) σ1 (l ++ [i % N]) vU (by omega) D1 (by rw [List.length_append]; show l.length + 1 + m ≤ 600; omega)
    have eg : (List.range' 0 N ++ List.range' 0 N)[i]? = some (i % N) := by
      by_cases z : i < N
      · rw [List.getElem?_append_left (by rw [List.length_range']; exact z), List.getElem?_range' (by exact z), Nat.mod_eq_of_lt z]
        simp
      · rw [List.getElem?_append_right (by rw [List.length_range']; omega), List.length_range', List.getElem?_range' (by omega), Nat.mod_eq_sub_mod (by omega), Nat.mod_eq_of_lt (by omega)]
        simp
    refine ⟨σ2, ?_, by rw [drop_c eg, List.append_cons]; exact D2⟩
    rw [sg_244_100]
    (try simp (disch := omega) only [er, wr_id2])
    refine step_f (by omega) ?_
    repeat (first | ((with_reducible refine step_t ?_ ?_); with_reducible exact True.intro) | ((with_reducible refine step_t ?_ ?_); omega) | ((with_reducible refine step_f ?_ ?_); omega))
    refine step_c (k1) ?_
    try dsimp only
    exact j1
theorem s244t {d : Nat} (h : 2 ≤ d) {σ0 : HP} {n : Nat} (hn : n < 3) {L : LB} (hr0 : slR σ0 n L) (hw : wf0 L) : ∀ (m i : Nat) (σ : HP) (l : List Nat) (u2 u3 : MV), i + m = (lT L).length * 2 → DM σ0 σ l → l.length + m ≤ 600 → ∃ σ', rsP PG0 MX d 244 128 [vR 101, vI n, u2, u3, vI i] [] σ = rsP PG0 MX d 244 163 [vR 101, vI n, vU, vU, vI (((lT L).length * 2 : Nat) : Int)] [] σ' ∧ DM σ0 σ' (l ++ (lT L ++ lT L).drop i) := by
  have hlen := wf_len hw
  intro m
  induction m with
  | zero =>
    intro i σ l u2 u3 hi hD hl
    have hy := hD.1.2
    have y1 := hy.1; have k101 := y101_m1 hy
    refine ⟨σ, ?_, by rw [List.drop_eq_nil_of_le (by rw [List.length_append]; omega), List.append_nil]; exact hD⟩
    rw [sg_244_128, show i = (lT L).length * 2 by omega]
    repeat (first | ((with_reducible refine step_t ?_ ?_); with_reducible exact True.intro) | ((with_reducible refine step_t ?_ ?_); omega) | ((with_reducible refine step_f ?_ ?_); omega))
    refine step_c (s204 (by omega) hy hn (hD.1.slr hr0)) ?_
    try dsimp only
    (try simp (disch := omega) only [wr_id2])
    refine step_t (by omega) ?_
    rfl
  | succ m ih =>
    intro i σ l u2 u3 hi hD hl
    have hy := hD.1.2
    have y1 := hy.1; have k101 := y101_m1 hy
    have er : i_rem (i : Int) ((lT L).length : Nat) = ((i % (lT L).length : Nat) : Int) := i_rem_n (by omega) (by omega) (by omega)
    have hmod := Nat.mod_lt i (show 0 < (lT L).length by omega)
    obtain ⟨x, hx⟩ := st_get (L := L) (i := i % (lT L).length) hmod
    obtain ⟨σ1, k1, D1⟩ := dm_push (d := d) (by omega) hD (by omega) x
    obtain ⟨σ2, j1, D2⟩ := ih (i + 1) σ1 (l ++ [x]) vU vU (by omega) D1 (by rw [List.length_append]; show l.length + 1 + m ≤ 600; omega)
    have eg : (lT L ++ lT L)[i]? = some x := by
      by_cases z : i < (lT L).length
      · rw [List.getElem?_append_left z]
        rw [Nat.mod_eq_of_lt z] at hx
        exact hx
      · rw [List.getElem?_append_right (by omega)]
        rw [Nat.mod_eq_sub_mod (by omega), Nat.mod_eq_of_lt (by omega)] at hx
        exact hx
    refine ⟨σ2, ?_, by rw [drop_c eg, List.append_cons]; exact D2⟩
    rw [sg_244_128]
    repeat (first | ((with_reducible refine step_t ?_ ?_); with_reducible exact True.intro) | ((with_reducible refine step_t ?_ ?_); omega) | ((with_reducible refine step_f ?_ ?_); omega))
    refine step_c (s204 (by omega) hy hn (hD.1.slr hr0)) ?_
    try dsimp only
    (try simp (disch := omega) only [wr_id2])
    repeat (first | ((with_reducible refine step_t ?_ ?_); with_reducible exact True.intro) | ((with_reducible refine step_t ?_ ?_); omega) | ((with_reducible refine step_f ?_ ?_); omega))
    refine step_c (s204 (by omega) hy hn (hD.1.slr hr0)) ?_
    try dsimp only
    (try simp (disch := omega) only [er, wr_id2])
    repeat (first | ((with_reducible refine step_t ?_ ?_); with_reducible exact True.intro) | ((with_reducible refine step_t ?_ ?_); omega) | ((with_reducible refine step_f ?_ ?_); omega))
    refine step_c (s205 (by omega) hy hn (hD.1.slr hr0) hw hx) ?_
    try dsimp only
    repeat (first | ((with_reducible refine step_t ?_ ?_); with_reducible exact True.intro) | ((with_reducible refine step_t ?_ ?_); omega) | ((with_reducible refine step_f ?_ ?_); omega))
    refine step_c (k1) ?_
    try dsimp only
    exact j1
theorem s244e {d : Nat} (h : 4 ≤ d) {σ σ1 : HP} {S : AS} (hm : MM σ S) {n : Nat} (hn : n < 3) {L : LB} (en : S.sl n = some L) (hr : slR σ n L) {l : List Nat} (hD : DM σ σ1 l) (hw : wfL (dlL L (lS L) l)) (u2 u3 u4 : MV) : ∃ σ', rsP PG0 MX d 244 163 [vR 101, vI n, u2, u3, u4] [] σ1 = some (((l.length : Nat) : Int), σ') ∧ FM σ σ' ∧ MM σ' (setl S n (some (dlL L (lS L) l))) := by
  have hy := hD.1.2
  have y1 := hy.1; have k101 := y101_m1 hy
  obtain ⟨σ2, j1, j2, j3⟩ := dm_ch (d := d) h hm hn en hD hw (l.length : Nat)
  have r1 := hD.1.slr hr
  have e5 := hD.len
  refine ⟨σ2, ?_, j2, j3⟩
  rw [sg_244_163]
  repeat (first | ((with_reducible refine step_t ?_ ?_); with_reducible exact True.intro) | ((with_reducible refine step_t ?_ ?_); omega) | ((with_reducible refine step_f ?_ ?_); omega))
  refine step_c (s181 (by omega) hy hn (j := 3) (by omega) (by omega)) ?_
  try dsimp only
  rw [r1.2.2.2.1]
  (try simp (disch := omega) only [e5, wr_id2])
  repeat (first | ((with_reducible refine step_t ?_ ?_); with_reducible exact True.intro) | ((with_reducible refine step_t ?_ ?_); omega) | ((with_reducible refine step_f ?_ ?_); omega))
  refine step_c (j1) ?_
  try dsimp only
theorem m244 (S : AS) {s w : Int} (hs : i32 s) (hx : i32 w) : mOp 244 [vI s, vI w] S (aA S s (makF w)) := by
  intro d σ h hy ht hm
  obtain ⟨d, rfl⟩ := ob1 (show 1 ≤ d by omega)
  have y1 := hy.1; have k101 := y101_m1 hy; have p102 := y101_0 hy; have k102 := y102_m1 hy; have l102 := y102_m2 hy; have p107 := y101_15 hy; have k107 := y107_m1 hy; have l107 := y107_m2 hy; have p108 := y101_16 hy; have k108 := y108_m1 hy; have l108 := y108_m2 hy
  unfold aA
  cases e : gl S s with
  | none =>
    refine ⟨σ, ?_, (FM.rf hy).fl, hm⟩
    rw [ce_244, sg_244_0]
    repeat (first | ((with_reducible refine step_t ?_ ?_); with_reducible exact True.intro) | ((with_reducible refine step_t ?_ ?_); omega) | ((with_reducible refine step_f ?_ ?_); omega))
    refine step_c (s180n (by omega) hy hm hs e) ?_
    try dsimp only
    (try simp (disch := omega) only [wr_id2])
    repeat (first | ((with_reducible refine step_t ?_ ?_); with_reducible exact True.intro) | ((with_reducible refine step_t ?_ ?_); omega) | ((with_reducible refine step_f ?_ ?_); omega))
    rfl
  | some L =>
    have e180 := s180s (d := d) (by omega) hy hm hs e
    obtain ⟨n, rfl, hn, hr, hw, en⟩ := hm.got e
    have hl := wf_len hw.1
    have h9 := hw.1.1
    have h1N := hw.2.1
    have hp8 := pow8 hw.1.1
    have hp0 := Nat.two_pow_pos (lN0 L)
    have hsh := shN_le L
    dsimp only
    have x1 := hx.1
    have x2 := hx.2
    have wx := hx.wr
    have e1 := s179 (d := d) (by omega) σ hx (y := 0) (z := 2) ⟨by decide, by decide⟩ ⟨by decide, by decide⟩
    have e207 := s207 (d := d) (by omega) hy hn hr
    have e204 := s204 (d := d) (by omega) hy hn hr
    have D0 := dm_0 hy
    unfold makF
    by_cases z0 : w = 0
    · subst z0
      rw [if_pos rfl]
      dsimp only
      rw [tnn]
      rw [decide_eq_true (by decide)] at e1
      obtain ⟨σ1, k1, D1⟩ := s244r (d := d) (by omega) (n := n) h9 h1N (2 ^ lN0 L - 1) 1 _ [] (vI 0) (by omega) (by omega) D0 (by show 0 + _ + _ ≤ _; omega)
      rw [List.nil_append] at D1
      have hwM : wfL (dlL L (lS L) (rflF (2 ^ lN0 L - 1) 1 ++ [lN0 L - 1])) := wf_rev hw hw.1.2.2.2.1 (by rw [List.length_append, rflF_len]; show _ + 1 ≤ 256; omega) (fun b hb => by
        rcases List.mem_append.mp hb with q | q
        · exact rflF_lt h9 _ 1 (by omega) (by omega) b q
        · rw [List.mem_singleton.mp q]; omega)
      obtain ⟨σ2, j1, j2, j3⟩ := s244e (d := d) (by omega) hm hn en hr D1 hwM vU (vI (lN0 L : Nat)) (vI ((2 ^ lN0 L : Nat) : Int))
      refine ⟨σ2, ?_, j2.fl, j3⟩
      rw [ce_244, sg_244_0]
      repeat (first | ((with_reducible refine step_t ?_ ?_); with_reducible exact True.intro) | ((with_reducible refine step_t ?_ ?_); omega) | ((with_reducible refine step_f ?_ ?_); omega))
      refine step_c (e180) ?_
      try dsimp only
      (try simp (disch := omega) only [wr_id2])
      repeat (first | ((with_reducible refine step_t ?_ ?_); with_reducible exact True.intro) | ((with_reducible refine step_t ?_ ?_); omega) | ((with_reducible refine step_f ?_ ?_); omega))
      refine step_c (e1) ?_
      try dsimp only
      rw [wr_b2i]
      refine step_f (show ¬ (b2i true = 0) by decide) ?_
      (try simp (disch := omega) only [wr_id2])
      repeat (first | ((with_reducible refine step_t ?_ ?_); with_reducible exact True.intro) | ((with_reducible refine step_t ?_ ?_); omega) | ((with_reducible refine step_f ?_ ?_); omega))
      rw [sg_244_41]
      repeat (first | ((with_reducible refine step_t ?_ ?_); with_reducible exact True.intro) | ((with_reducible refine step_t ?_ ?_); omega) | ((with_reducible refine step_f ?_ ?_); omega))
      refine step_c (e207) ?_
      try dsimp only
      (try simp (disch := omega) only [wr_id2])
      repeat (first | ((with_reducible refine step_t ?_ ?_); with_reducible exact True.intro) | ((with_reducible refine step_t ?_ ?_); omega) | ((with_reducible refine step_f ?_ ?_); omega))
      exact k1.trans j1
    · rw [if_neg z0]
      by_cases z1 : w = 1
      · subst z1
        rw [if_pos rfl]
        dsimp only
        rw [tnn]
        rw [decide_eq_true (by decide)] at e1
        obtain ⟨σ1, k1, D1⟩ := s244l (d := d) (by omega) (n := n) h9 h1N (2 * lN0 L) 0 _ [] (vI 1) (by omega) D0 (by show 0 + _ ≤ _; omega)
        rw [List.nil_append, List.drop_zero] at D1
        have hwM : wfL (dlL L (lS L) (List.range' 0 (lN0 L) ++ List.range' 0 (lN0 L))) := wf_rev hw hw.1.2.2.2.1 (by rw [List.length_append, List.length_range']; omega) (fun b hb => by
          rcases List.mem_append.mp hb with q | q
          · have := List.mem_range'_1.mp q; omega
          · have := List.mem_range'_1.mp q; omega)
        obtain ⟨σ2, j1, j2, j3⟩ := s244e (d := d) (by omega) hm hn en hr D1 hwM vU (vI (lN0 L : Nat)) (vI ((2 * lN0 L : Nat) : Int))
        refine ⟨σ2, ?_, j2.fl, j3⟩
        rw [ce_244, sg_244_0]
        repeat (first | ((with_reducible refine step_t ?_ ?_); with_reducible exact True.intro) | ((with_reducible refine step_t ?_ ?_); omega) | ((with_reducible refine step_f ?_ ?_); omega))
        refine step_c (e180) ?_
        try dsimp only
        (try simp (disch := omega) only [wr_id2])
        repeat (first | ((with_reducible refine step_t ?_ ?_); with_reducible exact True.intro) | ((with_reducible refine step_t ?_ ?_); omega) | ((with_reducible refine step_f ?_ ?_); omega))
        refine step_c (e1) ?_
        try dsimp only
        rw [wr_b2i]
        refine step_f (show ¬ (b2i true = 0) by decide) ?_
        (try simp (disch := omega) only [wr_id2])
        repeat (first | ((with_reducible refine step_t ?_ ?_); with_reducible exact True.intro) | ((with_reducible refine step_t ?_ ?_); omega) | ((with_reducible refine step_f ?_ ?_); omega))
        rw [sg_244_41]
        repeat (first | ((with_reducible refine step_t ?_ ?_); with_reducible exact True.intro) | ((with_reducible refine step_t ?_ ?_); omega) | ((with_reducible refine step_f ?_ ?_); omega))
        refine step_c (e207) ?_
        try dsimp only
        (try simp (disch := omega) only [wr_id2])
        repeat (first | ((with_reducible refine step_t ?_ ?_); with_reducible exact True.intro) | ((with_reducible refine step_t ?_ ?_); omega) | ((with_reducible refine step_f ?_ ?_); omega))
        exact k1.trans j1
      · rw [if_neg z1]
        by_cases z2 : w = 2
        · subst z2
          rw [if_pos rfl]
          rw [decide_eq_true (by decide)] at e1
          by_cases z3 : (lT L).length * 2 ≤ 256
          · rw [if_pos z3]
            dsimp only
            rw [tnn]
            obtain ⟨σ1, k1, D1⟩ := s244t (d := d) (by omega) hn hr hw.1 ((lT L).length * 2) 0 _ [] (vI 2) (vI (lN0 L : Nat)) (by omega) D0 (by show 0 + _ ≤ _; omega)
            rw [List.nil_append, List.drop_zero] at D1
            have hwM : wfL (dlL L (lS L) (lT L ++ lT L)) := wf_rev hw hw.1.2.2.2.1 (by rw [List.length_append]; omega) (fun b hb => by
              rcases List.mem_append.mp hb with q | q
              · exact hw.1.2.2.2.2.2 b q
              · exact hw.1.2.2.2.2.2 b q)
            obtain ⟨σ2, j1, j2, j3⟩ := s244e (d := d) (by omega) hm hn en hr D1 hwM vU vU (vI (((lT L).length * 2 : Nat) : Int))
            refine ⟨σ2, ?_, j2.fl, j3⟩
            rw [ce_244, sg_244_0]
            repeat (first | ((with_reducible refine step_t ?_ ?_); with_reducible exact True.intro) | ((with_reducible refine step_t ?_ ?_); omega) | ((with_reducible refine step_f ?_ ?_); omega))
            refine step_c (e180) ?_
            try dsimp only
            (try simp (disch := omega) only [wr_id2])
            repeat (first | ((with_reducible refine step_t ?_ ?_); with_reducible exact True.intro) | ((with_reducible refine step_t ?_ ?_); omega) | ((with_reducible refine step_f ?_ ?_); omega))
            refine step_c (e1) ?_
            try dsimp only
            rw [wr_b2i]
            refine step_f (show ¬ (b2i true = 0) by decide) ?_
            (try simp (disch := omega) only [wr_id2])
            repeat (first | ((with_reducible refine step_t ?_ ?_); with_reducible exact True.intro) | ((with_reducible refine step_t ?_ ?_); omega) | ((with_reducible refine step_f ?_ ?_); omega))
            refine step_c (e204) ?_
            try dsimp only
            (try simp (disch := omega) only [wr_id2])
            repeat (first | ((with_reducible refine step_t ?_ ?_); with_reducible exact True.intro) | ((with_reducible refine step_t ?_ ?_); omega) | ((with_reducible refine step_f ?_ ?_); omega))
            rw [sg_244_41]
            repeat (first | ((with_reducible refine step_t ?_ ?_); with_reducible exact True.intro) | ((with_reducible refine step_t ?_ ?_); omega) | ((with_reducible refine step_f ?_ ?_); omega))
            refine step_c (e207) ?_
            try dsimp only
            (try simp (disch := omega) only [wr_id2])
            repeat (first | ((with_reducible refine step_t ?_ ?_); with_reducible exact True.intro) | ((with_reducible refine step_t ?_ ?_); omega) | ((with_reducible refine step_f ?_ ?_); omega))
            exact k1.trans j1
          · rw [if_neg z3]
            dsimp only
            refine ⟨σ, ?_, (FM.rf hy).fl, hm⟩
            rw [ce_244, sg_244_0]
            repeat (first | ((with_reducible refine step_t ?_ ?_); with_reducible exact True.intro) | ((with_reducible refine step_t ?_ ?_); omega) | ((with_reducible refine step_f ?_ ?_); omega))
            refine step_c (e180) ?_
            try dsimp only
            (try simp (disch := omega) only [wr_id2])
            repeat (first | ((with_reducible refine step_t ?_ ?_); with_reducible exact True.intro) | ((with_reducible refine step_t ?_ ?_); omega) | ((with_reducible refine step_f ?_ ?_); omega))
            refine step_c (e1) ?_
            try dsimp only
            rw [wr_b2i]
            refine step_f (show ¬ (b2i true = 0) by decide) ?_
            (try simp (disch := omega) only [wr_id2])
            repeat (first | ((with_reducible refine step_t ?_ ?_); with_reducible exact True.intro) | ((with_reducible refine step_t ?_ ?_); omega) | ((with_reducible refine step_f ?_ ?_); omega))
            refine step_c (e204) ?_
            try dsimp only
            (try simp (disch := omega) only [wr_id2])
            repeat (first | ((with_reducible refine step_t ?_ ?_); with_reducible exact True.intro) | ((with_reducible refine step_t ?_ ?_); omega) | ((with_reducible refine step_f ?_ ?_); omega))
            rfl
        · rw [if_neg z2]
          dsimp only
          rw [decide_eq_false (by omega)] at e1
          refine ⟨σ, ?_, (FM.rf hy).fl, hm⟩
          rw [ce_244, sg_244_0]
          repeat (first | ((with_reducible refine step_t ?_ ?_); with_reducible exact True.intro) | ((with_reducible refine step_t ?_ ?_); omega) | ((with_reducible refine step_f ?_ ?_); omega))
          refine step_c (e180) ?_
          try dsimp only
          (try simp (disch := omega) only [wx, wr_id2])
          repeat (first | ((with_reducible refine step_t ?_ ?_); with_reducible exact True.intro) | ((with_reducible refine step_t ?_ ?_); omega) | ((with_reducible refine step_f ?_ ?_); omega))
          refine step_c (e1) ?_
          try dsimp only
          rw [wr_b2i]
          refine step_t (show b2i false = 0 by decide) ?_
          rfl
/-- mirror -/
theorem s271b {d : Nat} (h : 5 ≤ d) {σ : HP} {S : AS} (hm : MM σ S) {n : Nat} (hn : n < 3) {L : LB} (en : S.sl n = some L) (hr : slR σ n L) (hw : wfL L) {t : Nat} (ht : t < 2 ^ lN0 L) : ∀ (m i : Nat) (σ1 : HP) (l : List Nat), i + m = (lT L).length → DM σ σ1 l → l ++ ((lT L).drop i).map (fun x => lN0 L - 1 - x) = (lT L).map (fun x => lN0 L - 1 - x) → l.length = i → ∃ σ', rsP PG0 MX d 271 71 [vR 101, vI n, vI (lN0 L : Nat), vI t, vI i] [] σ1 = some ((t : Int), σ') ∧ FM σ σ' ∧ MM σ' (setl S n (some (dlL L t ((lT L).map (fun x => lN0 L - 1 - x))))) := by
  have hl := wf_len hw.1
  have h9 := hw.1.1
  intro m
  induction m with
  | zero =>
    intro i σ1 l hi hD he hll
    have hy := hD.1.2
    have y1 := hy.1; have k101 := y101_m1 hy
    rw [List.drop_eq_nil_of_le (by omega), List.map_nil, List.append_nil] at he
    rw [he] at hD
    obtain ⟨σ2, j1, j2, j3⟩ := dm_ch (d := d) (by omega) hm hn en hD (x := t) (wf_rev hw ht (by rw [List.length_map]; exact hl) (fun b hb => by
      obtain ⟨y, y1, y2⟩ := List.mem_map.mp hb
      have := hw.1.2.2.2.2.2 y y1
      omega)) (t : Int)
    refine ⟨σ2, ?_, j2, j3⟩
    rw [sg_271_71]
    repeat (first | ((with_reducible refine step_t ?_ ?_); with_reducible exact True.intro) | ((with_reducible refine step_t ?_ ?_); omega) | ((with_reducible refine step_f ?_ ?_); omega))
    refine step_c (s204 (by omega) hy hn (hD.1.slr hr)) ?_
    try dsimp only
    (try simp (disch := omega) only [wr_id2])
    repeat (first | ((with_reducible refine step_t ?_ ?_); with_reducible exact True.intro) | ((with_reducible refine step_t ?_ ?_); omega) | ((with_reducible refine step_f ?_ ?_); omega))
    refine step_c (j1) ?_
    try dsimp only
  | succ m ih =>
    intro i σ1 l hi hD he hll
    have hy := hD.1.2
    have y1 := hy.1; have k101 := y101_m1 hy
    obtain ⟨x, hx⟩ := st_get (L := L) (i := i) (by omega)
    have hxN := st_lt hw.1 hx
    obtain ⟨σ2, k1, D2⟩ := dm_push (d := d) (by omega) hD (by omega) (lN0 L - 1 - x)
    rw [show ((lN0 L - 1 - x : Nat) : Int) = (lN0 L : Nat) - 1 - (x : Int) by omega] at k1
    obtain ⟨σ3, j1, j2, j3⟩ := ih (i + 1) σ2 _ (by omega) D2 (by rw [drop_c hx, List.map_cons, List.append_cons] at he; exact he) (by rw [List.length_append]; show l.length + 1 = i + 1; omega)
    refine ⟨σ3, ?_, j2, j3⟩
    rw [sg_271_71]
    repeat (first | ((with_reducible refine step_t ?_ ?_); with_reducible exact True.intro) | ((with_reducible refine step_t ?_ ?_); omega) | ((with_reducible refine step_f ?_ ?_); omega))
    refine step_c (s204 (by omega) hy hn (hD.1.slr hr)) ?_
    try dsimp only
    (try simp (disch := omega) only [wr_id2])
    repeat (first | ((with_reducible refine step_t ?_ ?_); with_reducible exact True.intro) | ((with_reducible refine step_t ?_ ?_); omega) | ((with_reducible refine step_f ?_ ?_); omega))
    refine step_c (s205 (by omega) hy hn (hD.1.slr hr) hw.1 hx) ?_
    try dsimp only
    repeat (first | ((with_reducible refine step_t ?_ ?_); with_reducible exact True.intro) | ((with_reducible refine step_t ?_ ?_); omega) | ((with_reducible refine step_f ?_ ?_); omega))
    refine step_c (k1) ?_
    try dsimp only
    exact j1
theorem s271a {d : Nat} (h : 5 ≤ d) {σ : HP} {S : AS} (hy : Lay σ) (hm : MM σ S) {n : Nat} (hn : n < 3) {L : LB} (en : S.sl n = some L) (hr : slR σ n L) (hw : wfL L) : ∀ (m x a : Nat), x + m = lN0 L → a < 2 ^ lN0 L → ∃ σ', rsP PG0 MX d 271 22 [vR 101, vI n, vI (lN0 L : Nat), vI a, vI x] [] σ = some (((mirS L m x a : Nat) : Int), σ') ∧ FM σ σ' ∧ MM σ' (setl S n (some (dlL L (mirS L m x a) ((lT L).map (fun x => lN0 L - 1 - x))))) := by
  have y1 := hy.1; have k101 := y101_m1 hy
  have h8 := pow8 hw.1.1
  have h9 := hw.1.1
  have hS := lS_256 hw.1
  intro m
  induction m with
  | zero =>
    intro x a hx ha
    obtain ⟨σ', k1, k2, k3⟩ := s271b (d := d) h hm hn en hr hw (t := a) ha (lT L).length 0 _ [] (by omega) (dm_0 hy) rfl rfl
    refine ⟨σ', ?_, k2, k3⟩
    rw [sg_271_22]
    (try simp (disch := omega) only [wr_id2])
    repeat (first | ((with_reducible refine step_t ?_ ?_); with_reducible exact True.intro) | ((with_reducible refine step_t ?_ ?_); omega) | ((with_reducible refine step_f ?_ ?_); omega))
    exact k1
  | succ m ih =>
    intro x a hx ha
    have b2 := btN_2 (lS L) x
    have e216 := s216 (d := d) (by omega) σ (x := lS L) (k := x) (by omega) (by omega)
    have hlt : btN (lS L) x * 2 ^ (lN0 L - 1 - x) < 2 ^ lN0 L := bt_pow (by omega)
    obtain ⟨σ', k1, k2⟩ := ih (x + 1) (a ||| btN (lS L) x * 2 ^ (lN0 L - 1 - x)) (by omega) (Nat.or_lt_two_pow ha hlt)
    have or0 : i_or (a : Int) 0 = (a : Nat) := by
      have := i_or_n (a := a) (b := 0) (by omega) (by omega)
      rw [Nat.or_zero] at this
      exact this
    have em : mirS L (m + 1) x a = mirS L m (x + 1) (a ||| btN (lS L) x * 2 ^ (lN0 L - 1 - x)) := rfl
    rw [em]
    refine ⟨σ', ?_, k2⟩
    rw [sg_271_22]
    (try simp (disch := omega) only [wr_id2])
    repeat (first | ((with_reducible refine step_t ?_ ?_); with_reducible exact True.intro) | ((with_reducible refine step_t ?_ ?_); omega) | ((with_reducible refine step_f ?_ ?_); omega))
    refine step_c (s181 (by omega) hy hn (j := 3) (by omega) (by omega)) ?_
    try dsimp only
    rw [hr.2.2.2.1]
    refine step_c (e216) ?_
    try dsimp only
    rw [wr_b2i]
    by_cases z : btN (lS L) x = 1
    · rw [z, Nat.one_mul] at k1 hlt
      rw [decide_eq_true z]
      refine step_f (show ¬ (b2i true = 0) by decide) ?_
      rw [show ((lN0 L : Nat) : Int) - 1 - (x : Int) = ((lN0 L - 1 - x : Nat) : Int) by omega, shl1 (show lN0 L - 1 - x < 31 by omega), i_or_n (a := a) (b := 2 ^ (lN0 L - 1 - x)) (by omega) (by omega), z, Nat.one_mul]
      exact k1
    · rw [show btN (lS L) x = 0 by omega, Nat.zero_mul, Nat.or_zero] at k1
      rw [decide_eq_false z]
      refine step_t (show b2i false = 0 by decide) ?_
      rw [or0, show btN (lS L) x = 0 by omega, Nat.zero_mul, Nat.or_zero]
      exact k1
theorem m271 (S : AS) {s : Int} (hs : i32 s) : mOp 271 [vI s] S (aA S s mirF) := by
  intro d σ h hy ht hm
  obtain ⟨d, rfl⟩ := ob1 (show 1 ≤ d by omega)
  have y1 := hy.1; have k101 := y101_m1 hy; have p102 := y101_0 hy; have k102 := y102_m1 hy; have l102 := y102_m2 hy; have p107 := y101_15 hy; have k107 := y107_m1 hy; have l107 := y107_m2 hy; have p108 := y101_16 hy; have k108 := y108_m1 hy; have l108 := y108_m2 hy
  unfold aA
  cases e : gl S s with
  | none =>
    refine ⟨σ, ?_, (FM.rf hy).fl, hm⟩
    rw [ce_271, sg_271_0]
    repeat (first | ((with_reducible refine step_t ?_ ?_); with_reducible exact True.intro) | ((with_reducible refine step_t ?_ ?_); omega) | ((with_reducible refine step_f ?_ ?_); omega))
    refine step_c (s180n (by omega) hy hm hs e) ?_
    try dsimp only
    (try simp (disch := omega) only [wr_id2])
    repeat (first | ((with_reducible refine step_t ?_ ?_); with_reducible exact True.intro) | ((with_reducible refine step_t ?_ ?_); omega) | ((with_reducible refine step_f ?_ ?_); omega))
    rfl
  | some L =>
    have e180 := s180s (d := d) (by omega) hy hm hs e
    obtain ⟨n, rfl, hn, hr, hw, en⟩ := hm.got e
    have hl := wf_len hw.1
    have h9 := hw.1.1
    have h1N := hw.2.1
    have hp8 := pow8 hw.1.1
    have hp0 := Nat.two_pow_pos (lN0 L)
    have hsh := shN_le L
    dsimp only
    unfold mirF
    dsimp only
    rw [tnn]
    obtain ⟨σ1, k1, k2, k3⟩ := s271a (d := d) (by omega) hy hm hn en hr hw (lN0 L) 0 0 (by omega) hp0
    refine ⟨σ1, ?_, k2.fl, k3⟩
    rw [ce_271, sg_271_0]
    repeat (first | ((with_reducible refine step_t ?_ ?_); with_reducible exact True.intro) | ((with_reducible refine step_t ?_ ?_); omega) | ((with_reducible refine step_f ?_ ?_); omega))
    refine step_c (e180) ?_
    try dsimp only
    (try simp (disch := omega) only [wr_id2])
    repeat (first | ((with_reducible refine step_t ?_ ?_); with_reducible exact True.intro) | ((with_reducible refine step_t ?_ ?_); omega) | ((with_reducible refine step_f ?_ ?_); omega))
    refine step_c (s207 (by omega) hy hn hr) ?_
    try dsimp only
    exact k1
/-- detour -/
theorem m270 (S : AS) {s i x : Int} (hs : i32 s) (hi : i32 i) (hx : i32 x) : mOp 270 [vI s, vI i, vI x] S (aA S s (detF i x)) := by
  intro d σ h hy ht hm
  obtain ⟨d, rfl⟩ := ob1 (show 1 ≤ d by omega)
  have y1 := hy.1; have k101 := y101_m1 hy; have p102 := y101_0 hy; have k102 := y102_m1 hy; have l102 := y102_m2 hy; have p107 := y101_15 hy; have k107 := y107_m1 hy; have l107 := y107_m2 hy; have p108 := y101_16 hy; have k108 := y108_m1 hy; have l108 := y108_m2 hy
  unfold aA
  cases e : gl S s with
  | none =>
    refine ⟨σ, ?_, (FM.rf hy).fl, hm⟩
    rw [ce_270, sg_270_0]
    repeat (first | ((with_reducible refine step_t ?_ ?_); with_reducible exact True.intro) | ((with_reducible refine step_t ?_ ?_); omega) | ((with_reducible refine step_f ?_ ?_); omega))
    refine step_c (s224n (by omega) hy hm hs hx e) ?_
    try dsimp only
    (try simp (disch := omega) only [wr_id2])
    repeat (first | ((with_reducible refine step_t ?_ ?_); with_reducible exact True.intro) | ((with_reducible refine step_t ?_ ?_); omega) | ((with_reducible refine step_f ?_ ?_); omega))
    rfl
  | some L =>
    have e180 := s224s (d := d) (by omega) hy hm hs hx e
    obtain ⟨n, rfl, hn, hr, hw, en⟩ := hm.got e
    have hl := wf_len hw.1
    have h9 := hw.1.1
    have h1N := hw.2.1
    have hp8 := pow8 hw.1.1
    have hp0 := Nat.two_pow_pos (lN0 L)
    have hsh := shN_le L
    dsimp only
    have x1 := hi.1
    have x2 := hi.2
    have wx := hi.wr
    have e204 := s204 (d := d) (by omega) hy hn hr
    have e1 := s179 (d := d) (by omega) σ hi (y := 0) (z := ((lT L).length : Nat) - 1) ⟨by decide, by decide⟩ ⟨by omega, by omega⟩
    unfold detF
    by_cases zb : 0 ≤ x ∧ x < lN0 L
    · rw [decide_eq_true zb] at e180
      by_cases za : 0 ≤ i ∧ i < (lT L).length
      · rw [decide_eq_true (show 0 ≤ i ∧ i ≤ ((lT L).length : Nat) - 1 by omega)] at e1
        rw [if_pos ⟨za, zb⟩]
        by_cases z2 : (lT L).length + 2 ≤ 256
        · rw [if_pos z2]
          dsimp only
          rw [tnn]
          have ea : ((i.toNat : Nat) : Int) = i := by omega
          have eb : ((x.toNat : Nat) : Int) = x := by omega
          have l1 := slc_len (L := L) (i := 0) (n := i.toNat) (by omega)
          have l2 := slc_len (L := L) (i := i.toNat) (n := 1) (by omega)
          have l3 := slc_len (L := L) (i := i.toNat + 1) (n := (lT L).length - (i.toNat + 1)) (by omega)
          have D0 := dm_0 hy
          obtain ⟨σ1, k1, D1⟩ := dm_on (d := d) (by omega) hn hr hw.1 (i := 0) (j := i.toNat) (by omega) (by omega) D0 (by show 0 + _ ≤ _; omega)
          rw [List.nil_append, Nat.sub_zero] at D1
          obtain ⟨σ2, k2, D2⟩ := dm_push (d := d) (by omega) D1 (by omega) x.toNat
          obtain ⟨y, hy2⟩ := st_get (L := L) (i := i.toNat) (by omega)
          obtain ⟨σ3, k3, D3⟩ := dm_push (d := d) (by omega) D2 (by rw [List.length_append, l1]; show i.toNat + 1 < 600; omega) y
          have es : slc L i.toNat 1 = [y] := by rw [slc_cons hy2, slc_0]
          rw [← es] at D3
          obtain ⟨σ4, k4, D4⟩ := dm_push (d := d) (by omega) D3 (by rw [List.length_append, List.length_append, l1, l2]; show i.toNat + 1 + 1 < 600; omega) x.toNat
          obtain ⟨σ5, k5, D5⟩ := dm_on (d := d) (by omega) hn hr hw.1 (i := i.toNat + 1) (j := (lT L).length) (by omega) (by omega) D4 (by rw [List.length_append, List.length_append, List.length_append, l1, l2]; show i.toNat + 1 + 1 + 1 + _ ≤ 600; omega)
          have elen : (slc L 0 i.toNat ++ [x.toNat] ++ slc L i.toNat 1 ++ [x.toNat] ++ slc L (i.toNat + 1) ((lT L).length - (i.toNat + 1))).length = (lT L).length + 2 := by
            rw [List.length_append, List.length_append, List.length_append, List.length_append, l1, l2, l3]
            show i.toNat + 1 + 1 + 1 + _ = _
            omega
          have hwM : wfL (dlL L (lS L) (slc L 0 i.toNat ++ [x.toNat] ++ slc L i.toNat 1 ++ [x.toNat] ++ slc L (i.toNat + 1) ((lT L).length - (i.toNat + 1)))) := wf_rev hw hw.1.2.2.2.1 (by omega) (fun b hb => by
            simp only [List.mem_append, List.mem_singleton] at hb
            rcases hb with (((q | q) | q) | q) | q
            · exact slc_mem hw.1 q
            · omega
            · exact slc_mem hw.1 q
            · omega
            · exact slc_mem hw.1 q)
          obtain ⟨σ6, j1, j2, j3⟩ := dm_ch (d := d) (by omega) hm hn en D5 hwM ((((lT L).length + 2 : Nat) : Int))
          have e5 := D5.len
          rw [elen] at e5
          rw [ea] at k1
          rw [eb] at k2 k4
          rw [show ((i.toNat + 1 : Nat) : Int) = i + 1 by omega] at k5
          have hy0 := D0.1.2
          have y1b := hy0.1; have k101b := y101_m1 hy0
          have y3 := D1.1.2
          have y1c := y3.1; have k101c := y101_m1 y3
          have y4 := D2.1.2
          have y1d := y4.1; have k101d := y101_m1 y4
          have y5 := D3.1.2
          have y1e := y5.1; have k101e := y101_m1 y5
          have y6 := D4.1.2
          have y1f := y6.1; have k101f := y101_m1 y6
          have y7 := D5.1.2
          have y1g := y7.1; have k101g := y101_m1 y7
          have e205 := s205 (d := d) (by omega) y4 hn (D2.1.slr hr) hw.1 hy2
          rw [ea] at e205
          refine ⟨σ6, ?_, j2.fl, j3⟩
          rw [ce_270, sg_270_0]
          repeat (first | ((with_reducible refine step_t ?_ ?_); with_reducible exact True.intro) | ((with_reducible refine step_t ?_ ?_); omega) | ((with_reducible refine step_f ?_ ?_); omega))
          refine step_c (e180) ?_
          try dsimp only
          rw [wr_b2i]
          refine step_f (show ¬ (b2i true = 0) by decide) ?_
          repeat (first | ((with_reducible refine step_t ?_ ?_); with_reducible exact True.intro) | ((with_reducible refine step_t ?_ ?_); omega) | ((with_reducible refine step_f ?_ ?_); omega))
          refine step_c (e204) ?_
          try dsimp only
          (try simp (disch := omega) only [wx, wr_id2])
          refine step_c (e1) ?_
          try dsimp only
          rw [wr_b2i]
          refine step_t (show b2i true ≠ 0 by decide) ?_
          repeat (first | ((with_reducible refine step_t ?_ ?_); with_reducible exact True.intro) | ((with_reducible refine step_t ?_ ?_); omega) | ((with_reducible refine step_f ?_ ?_); omega))
          refine step_c (e204) ?_
          try dsimp only
          (try simp (disch := omega) only [wr_id2])
          repeat (first | ((with_reducible refine step_t ?_ ?_); with_reducible exact True.intro) | ((with_reducible refine step_t ?_ ?_); omega) | ((with_reducible refine step_f ?_ ?_); omega))
          rw [sg_270_45]
          repeat (first | ((with_reducible refine step_t ?_ ?_); with_reducible exact True.intro) | ((with_reducible refine step_t ?_ ?_); omega) | ((with_reducible refine step_f ?_ ?_); omega))
          refine step_c (k1) ?_
          try dsimp only
          repeat (first | ((with_reducible refine step_t ?_ ?_); with_reducible exact True.intro) | ((with_reducible refine step_t ?_ ?_); omega) | ((with_reducible refine step_f ?_ ?_); omega))
          refine step_c (k2) ?_
          try dsimp only
          repeat (first | ((with_reducible refine step_t ?_ ?_); with_reducible exact True.intro) | ((with_reducible refine step_t ?_ ?_); omega) | ((with_reducible refine step_f ?_ ?_); omega))
          refine step_c (e205) ?_
          try dsimp only
          repeat (first | ((with_reducible refine step_t ?_ ?_); with_reducible exact True.intro) | ((with_reducible refine step_t ?_ ?_); omega) | ((with_reducible refine step_f ?_ ?_); omega))
          refine step_c (k3) ?_
          try dsimp only
          rw [sg_270_72]
          repeat (first | ((with_reducible refine step_t ?_ ?_); with_reducible exact True.intro) | ((with_reducible refine step_t ?_ ?_); omega) | ((with_reducible refine step_f ?_ ?_); omega))
          refine step_c (k4) ?_
          try dsimp only
          repeat (first | ((with_reducible refine step_t ?_ ?_); with_reducible exact True.intro) | ((with_reducible refine step_t ?_ ?_); omega) | ((with_reducible refine step_f ?_ ?_); omega))
          refine step_c (s204 (by omega) y6 hn (D4.1.slr hr)) ?_
          try dsimp only
          repeat (first | ((with_reducible refine step_t ?_ ?_); with_reducible exact True.intro) | ((with_reducible refine step_t ?_ ?_); omega) | ((with_reducible refine step_f ?_ ?_); omega))
          refine step_c (k5) ?_
          try dsimp only
          repeat (first | ((with_reducible refine step_t ?_ ?_); with_reducible exact True.intro) | ((with_reducible refine step_t ?_ ?_); omega) | ((with_reducible refine step_f ?_ ?_); omega))
          refine step_c (s181 (by omega) y7 hn (j := 3) (by omega) (by omega)) ?_
          try dsimp only
          rw [(D5.1.slr hr).2.2.2.1]
          (try simp (disch := omega) only [e5, wr_id2])
          repeat (first | ((with_reducible refine step_t ?_ ?_); with_reducible exact True.intro) | ((with_reducible refine step_t ?_ ?_); omega) | ((with_reducible refine step_f ?_ ?_); omega))
          refine step_c (j1) ?_
          try dsimp only
        · rw [if_neg z2]
          dsimp only
          refine ⟨σ, ?_, (FM.rf hy).fl, hm⟩
          rw [ce_270, sg_270_0]
          repeat (first | ((with_reducible refine step_t ?_ ?_); with_reducible exact True.intro) | ((with_reducible refine step_t ?_ ?_); omega) | ((with_reducible refine step_f ?_ ?_); omega))
          refine step_c (e180) ?_
          try dsimp only
          rw [wr_b2i]
          refine step_f (show ¬ (b2i true = 0) by decide) ?_
          repeat (first | ((with_reducible refine step_t ?_ ?_); with_reducible exact True.intro) | ((with_reducible refine step_t ?_ ?_); omega) | ((with_reducible refine step_f ?_ ?_); omega))
          refine step_c (e204) ?_
          try dsimp only
          (try simp (disch := omega) only [wx, wr_id2])
          refine step_c (e1) ?_
          try dsimp only
          rw [wr_b2i]
          refine step_t (show b2i true ≠ 0 by decide) ?_
          repeat (first | ((with_reducible refine step_t ?_ ?_); with_reducible exact True.intro) | ((with_reducible refine step_t ?_ ?_); omega) | ((with_reducible refine step_f ?_ ?_); omega))
          refine step_c (e204) ?_
          try dsimp only
          (try simp (disch := omega) only [wr_id2])
          repeat (first | ((with_reducible refine step_t ?_ ?_); with_reducible exact True.intro) | ((with_reducible refine step_t ?_ ?_); omega) | ((with_reducible refine step_f ?_ ?_); omega))
          rw [sg_270_42]
      · rw [decide_eq_false (show ¬ (0 ≤ i ∧ i ≤ ((lT L).length : Nat) - 1) by omega)] at e1
        rw [if_neg (fun q => za q.1)]
        dsimp only
        refine ⟨σ, ?_, (FM.rf hy).fl, hm⟩
        rw [ce_270, sg_270_0]
        repeat (first | ((with_reducible refine step_t ?_ ?_); with_reducible exact True.intro) | ((with_reducible refine step_t ?_ ?_); omega) | ((with_reducible refine step_f ?_ ?_); omega))
        refine step_c (e180) ?_
        try dsimp only
        rw [wr_b2i]
        refine step_f (show ¬ (b2i true = 0) by decide) ?_
        repeat (first | ((with_reducible refine step_t ?_ ?_); with_reducible exact True.intro) | ((with_reducible refine step_t ?_ ?_); omega) | ((with_reducible refine step_f ?_ ?_); omega))
        refine step_c (e204) ?_
        try dsimp only
        (try simp (disch := omega) only [wx, wr_id2])
        refine step_c (e1) ?_
        try dsimp only
        rw [wr_b2i]
        refine step_f (show ¬ (b2i false ≠ 0) by decide) ?_
        rfl
    · rw [decide_eq_false zb] at e180
      rw [if_neg (fun q => zb q.2)]
      dsimp only
      refine ⟨σ, ?_, (FM.rf hy).fl, hm⟩
      rw [ce_270, sg_270_0]
      repeat (first | ((with_reducible refine step_t ?_ ?_); with_reducible exact True.intro) | ((with_reducible refine step_t ?_ ?_); omega) | ((with_reducible refine step_f ?_ ?_); omega))
      refine step_c (e180) ?_
      try dsimp only
      rw [wr_b2i]
      refine step_t (show b2i false = 0 by decide) ?_
      rfl
