/-- isWord -/
theorem RM.lay {σ0 σ : HP} {T : List Nat} {r : RD} (h : RM σ0 σ T r) : Lay σ := h.1.2
theorem RM.txt {σ0 σ : HP} {T : List Nat} {r : RD} (h : RM σ0 σ T r) (ht : Txt σ0) : Txt σ := by
  intro i t e
  obtain ⟨q1, q2, q3⟩ := ht i t e
  have hg := ht.get e
  refine ⟨?_, ?_, fun j y hy => ?_⟩
  · rw [h.1.1 _ _ (by omega)]; exact q1
  · rw [h.1.1 _ _ (by omega)]; exact q2
  · rw [h.1.1 _ _ (by omega)]; exact q3 j y hy
theorem s190l {d : Nat} (h : 6 ≤ d) {σ0 σ : HP} {T : List Nat} {r : RD} (hR : RM σ0 σ T r) (ht : Txt σ) {i : Nat} {t : List Nat} (e : txC[i]? = some t) (hlen : rT r - rF r = t.length) : ∀ (m k : Nat), k + m = t.length → rsP PG0 MX d 190 39 [vR 101, vR (2 + i), vI 1, vI k] [] σ = some (b2i (allF (fun j => decide (tv T (rF r + j) = t[j]?.getD 0)) m k), σ) := by
  obtain ⟨hF, hT, ⟨q1, q2, q3, q4, q5, q6, q7⟩, hok⟩ := id hR
  have hy := hF.2
  have y1 := hy.1; have k101 := y101_m1 hy; have p106 := y101_6 hy; have k106 := y106_m1 hy; have l106 := y106_m2 hy
  have l2 := hT.2.1
  have o1 := hok.1
  have o2 := hok.2.1
  have hg := ht.get e
  obtain ⟨t1, t2, t3⟩ := ht i t e
  have ht10 : t.length ≤ 10 := by
    have : ∀ t ∈ txC, t.length ≤ 10 := by decide
    exact this t (List.mem_of_getElem? e)
  intro m
  induction m with
  | zero =>
    intro k hk
    rw [sg_190_39]
    repeat (first | ((with_reducible refine step_t ?_ ?_); with_reducible exact True.intro) | ((with_reducible refine step_t ?_ ?_); omega) | ((with_reducible refine step_f ?_ ?_); omega))
    refine step_c (p_len (by omega) σ hg) ?_
    try dsimp only
    (try simp (disch := omega) only [t2, wr_id2])
    repeat (first | ((with_reducible refine step_t ?_ ?_); with_reducible exact True.intro) | ((with_reducible refine step_t ?_ ?_); omega) | ((with_reducible refine step_f ?_ ?_); omega))
    rfl
  | succ m ih =>
    intro k hk
    obtain ⟨x, hx⟩ : ∃ x, t[k]? = some x := ⟨_, List.getElem?_eq_getElem (by omega)⟩
    have hx2 := tx_128 t (List.mem_of_getElem? e) x (List.mem_of_getElem? hx)
    have hv := t3 k x hx
    obtain ⟨v1, v2⟩ := hT.2.2 (rF r + k) _ (tv_at (show rF r + k < T.length by omega))
    rw [show ((rF r + k : Nat) : Int) = (rF r : Nat) + (k : Int) by omega] at v2
    have hq := p_chr (d := d) (by omega) σ (a := 2 + i) (i := k) ⟨hg.1, hg.2.1, hg.2.2, by rw [wrn (by omega)]; omega, by rw [wrn (by omega), t2]; omega⟩
    rw [wrn (by omega), hv] at hq
    rw [sg_190_39]
    repeat (first | ((with_reducible refine step_t ?_ ?_); with_reducible exact True.intro) | ((with_reducible refine step_t ?_ ?_); omega) | ((with_reducible refine step_f ?_ ?_); omega))
    refine step_c (p_len (by omega) σ hg) ?_
    try dsimp only
    (try simp (disch := omega) only [t2, p106, q2, v2, wr_id2])
    repeat (first | ((with_reducible refine step_t ?_ ?_); with_reducible exact True.intro) | ((with_reducible refine step_t ?_ ?_); omega) | ((with_reducible refine step_f ?_ ?_); omega))
    refine step_c (hq) ?_
    try dsimp only
    (try simp (disch := omega) only [p106, q2, v2, wr_id2])
    repeat (first | ((with_reducible refine step_t ?_ ?_); with_reducible exact True.intro) | ((with_reducible refine step_t ?_ ?_); omega) | ((with_reducible refine step_f ?_ ?_); omega))
    unfold allF
    rw [hx]
    refine step_i (fun g => ?_) (fun g => ?_)
    · rw [if_neg (show ¬ decide (tv T (rF r + k) = (some x).getD 0) = true by rw [decide_eq_true_iff]; show ¬ tv T (rF r + k) = x; omega), sg_190_39]
      repeat (first | ((with_reducible refine step_t ?_ ?_); with_reducible exact True.intro) | ((with_reducible refine step_t ?_ ?_); omega) | ((with_reducible refine step_f ?_ ?_); omega))
      refine step_c (p_len (by omega) σ hg) ?_
      try dsimp only
      (try simp (disch := omega) only [t2, wr_id2])
      refine step_i (fun g2 => ?_) (fun g2 => ?_)
      · rfl
      · repeat (first | ((with_reducible refine step_t ?_ ?_); with_reducible exact True.intro) | ((with_reducible refine step_t ?_ ?_); omega) | ((with_reducible refine step_f ?_ ?_); omega))
        rfl
    · rw [if_pos (decide_eq_true (show tv T (rF r + k) = (some x).getD 0 by show tv T (rF r + k) = x; omega))]
      exact ih (k + 1) (by omega)
theorem s190 {d : Nat} (h : 7 ≤ d) {σ0 σ : HP} {T : List Nat} {r : RD} (hR : RM σ0 σ T r) (ht0 : Txt σ0) {i : Nat} {t : List Nat} (e : txC[i]? = some t) : clR PG0 MX d 190 [vR 101, vR (2 + i)] σ = some (b2i (decide (rK r = 0) && isL T t r), σ) := by
  obtain ⟨d, rfl⟩ := ob1 (show 1 ≤ d by omega)
  have ht := hR.txt ht0
  obtain ⟨hF, hT, ⟨q1, q2, q3, q4, q5, q6, q7⟩, hok⟩ := id hR
  have hy := hF.2
  have y1 := hy.1; have k101 := y101_m1 hy
  have l2 := hT.2.1
  have o1 := hok.1
  have o2 := hok.2.1
  have o5 := hok.2.2.2.2.1
  have hg := ht.get e
  obtain ⟨t1, t2, t3⟩ := ht i t e
  have ht10 : t.length ≤ 10 := by
    have : ∀ t ∈ txC, t.length ≤ 10 := by decide
    exact this t (List.mem_of_getElem? e)
  have off : rsP PG0 MX d 190 39 [vR 101, vR (2 + i), vI 0, vI 0] [] σ = some (0, σ) := by
    rw [sg_190_39]
    repeat (first | ((with_reducible refine step_t ?_ ?_); with_reducible exact True.intro) | ((with_reducible refine step_t ?_ ?_); omega) | ((with_reducible refine step_f ?_ ?_); omega))
    refine step_c (p_len (by omega) σ hg) ?_
    try dsimp only
    (try simp (disch := omega) only [t2, wr_id2])
    refine step_i (fun g => ?_) (fun g => ?_)
    · rfl
    · repeat (first | ((with_reducible refine step_t ?_ ?_); with_reducible exact True.intro) | ((with_reducible refine step_t ?_ ?_); omega) | ((with_reducible refine step_f ?_ ?_); omega))
      rfl
  rw [ce_190, sg_190_0]
  unfold isL
  by_cases z : rK r = 0
  · rw [decide_eq_false (show ¬ (rK r ≠ 0) from fun q => q z)] at q4
    rw [decide_eq_true z, Bool.true_and]
    (try simp (disch := omega) only [q4, q3, q1, q2, wr_id2])
    repeat (first | ((with_reducible refine step_t ?_ ?_); with_reducible exact True.intro) | ((with_reducible refine step_t ?_ ?_); omega) | ((with_reducible refine step_f ?_ ?_); omega))
    refine step_f (show ¬ (wr (b2i false) ≠ 0) by decide) ?_
    repeat (first | ((with_reducible refine step_t ?_ ?_); with_reducible exact True.intro) | ((with_reducible refine step_t ?_ ?_); omega) | ((with_reducible refine step_f ?_ ?_); omega))
    refine step_i (fun g => ?_) (fun g => ?_)
    · rw [decide_eq_false (by omega)]
      exact off
    · rw [decide_eq_true (show rD r = 1 by omega), Bool.true_and]
      repeat (first | ((with_reducible refine step_t ?_ ?_); with_reducible exact True.intro) | ((with_reducible refine step_t ?_ ?_); omega) | ((with_reducible refine step_f ?_ ?_); omega))
      refine step_c (p_len (by omega) σ hg) ?_
      try dsimp only
      (try simp (disch := omega) only [t2, wr_id2])
      repeat (first | ((with_reducible refine step_t ?_ ?_); with_reducible exact True.intro) | ((with_reducible refine step_t ?_ ?_); omega) | ((with_reducible refine step_f ?_ ?_); omega))
      by_cases z2 : rT r - rF r = t.length
      · rw [decide_eq_true z2, Bool.true_and]
        refine step_f (by omega) ?_
        exact s190l (d := d) (by omega) hR ht e z2 t.length 0 (by omega)
      · rw [decide_eq_false z2]
        refine step_t (by omega) ?_
        exact off
  · rw [decide_eq_true (show rK r ≠ 0 from z)] at q4
    rw [decide_eq_false z, Bool.false_and]
    (try simp (disch := omega) only [q4, wr_id2])
    repeat (first | ((with_reducible refine step_t ?_ ?_); with_reducible exact True.intro) | ((with_reducible refine step_t ?_ ?_); omega) | ((with_reducible refine step_f ?_ ?_); omega))
    refine step_t (show wr (b2i true) ≠ 0 by decide) ?_
    exact off
theorem rdM_L {T t : List Nat} {r : RD} : rdM T (decide (rK r = 0) && isL T t r) r = rdL T t r := by
  unfold rdM rdL
  by_cases z : rK r ≠ 0
  · rw [if_pos z, if_pos z]
  · rw [if_neg z, if_neg z, decide_eq_true (show rK r = 0 by omega), Bool.true_and]
/-- must a word -/
theorem s191L {d : Nat} (h : 8 ≤ d) {σ0 σ : HP} {T : List Nat} {r : RD} (hR : RM σ0 σ T r) {t : List Nat} : ∃ σ', clR PG0 MX d 191 [vR 101, vI (b2i (decide (rK r = 0) && isL T t r))] σ = some (0, σ') ∧ RM σ0 σ' T (rdL T t r) := by
  obtain ⟨σ1, k1, k2⟩ := s191 h hR (decide (rK r = 0) && isL T t r)
  rw [rdM_L] at k2
  exact ⟨σ1, k1, k2⟩
/-- number -/
theorem s193 {d : Nat} (h : 9 ≤ d) {σ0 σ : HP} {T : List Nat} {r : RD} (hR : RM σ0 σ T r) {lo hi : Nat} (hlo : lo ≤ 255) (hhi : hi ≤ 255) : ∃ σ', clR PG0 MX d 193 [vR 101, vI lo, vI hi] σ = some ((((rdN T lo hi r).1 : Nat) : Int), σ') ∧ RM σ0 σ' T (rdN T lo hi r).2 := by
  obtain ⟨d, rfl⟩ := ob1 (show 1 ≤ d by omega)
  obtain ⟨hF, hT, ⟨q1, q2, q3, q4, q5, q6, q7⟩, hok⟩ := id hR
  have hy := hF.2
  have y1 := hy.1; have k101 := y101_m1 hy
  have o5 := hok.2.2.2.2.1
  have vb : rdV T r ≤ 1000 := vl_b _ _ _ (by omega)
  -- behind a fault
  have bad : ∀ (σ1 : HP) (r1 : RD) (v : Int) (u2 : MV), rK r1 ≠ 0 → RM σ0 σ1 T r1 → ∃ σ', rsP PG0 MX d 193 55 [vR 101, vI lo, u2, vI v] [] σ1 = some ((lo : Int), σ') ∧ RM σ0 σ' T r1 := by
    intro σ1 r1 v u2 hk hR1
    have hy := hR1.1.2
    have y1 := hy.1; have k101 := y101_m1 hy
    have w4 := hR1.2.2.1.2.2.2.1
    rw [decide_eq_true hk] at w4
    obtain ⟨σ2, k1, k2⟩ := s191 (d := d) (by omega) hR1 false
    have k1 : clR PG0 MX d 191 [vR 101, vI 0] σ1 = some (0, σ2) := k1
    have e : rdM T false r1 = r1 := by unfold rdM; rw [if_pos hk]
    rw [e] at k2
    have hy2 := k2.1.2
    have y1b := hy2.1; have k101b := y101_m1 hy2
    have v4 := k2.2.2.1.2.2.2.1
    rw [decide_eq_true hk] at v4
    refine ⟨σ2, ?_, k2⟩
    rw [sg_193_55]
    (try simp (disch := omega) only [w4, wr_id2])
    repeat (first | ((with_reducible refine step_t ?_ ?_); with_reducible exact True.intro) | ((with_reducible refine step_t ?_ ?_); omega) | ((with_reducible refine step_f ?_ ?_); omega))
    refine step_t (show wr (b2i true) ≠ 0 by decide) ?_
    rw [sg_193_68]
    repeat (first | ((with_reducible refine step_t ?_ ?_); with_reducible exact True.intro) | ((with_reducible refine step_t ?_ ?_); omega) | ((with_reducible refine step_f ?_ ?_); omega))
    refine step_c (k1) ?_
    try dsimp only
    (try simp (disch := omega) only [v4, wr_id2])
    repeat (first | ((with_reducible refine step_t ?_ ?_); with_reducible exact True.intro) | ((with_reducible refine step_t ?_ ?_); omega) | ((with_reducible refine step_f ?_ ?_); omega))
    refine step_f (show ¬ wr (b2i true) = 0 by decide) ?_
    rfl
  unfold rdN
  by_cases z : rK r ≠ 0
  · rw [if_pos z]
    rw [decide_eq_true z] at q4
    refine ⟨σ, ?_, hR⟩
    rw [ce_193, sg_193_0]
    (try simp (disch := omega) only [q4, wr_id2])
    repeat (first | ((with_reducible refine step_t ?_ ?_); with_reducible exact True.intro) | ((with_reducible refine step_t ?_ ?_); omega) | ((with_reducible refine step_f ?_ ?_); omega))
    refine step_f (show ¬ wr (b2i true) = 0 by decide) ?_
    rfl
  · rw [if_neg z]
    rw [decide_eq_false z] at q4
    by_cases z2 : rD r = 2
    · rw [if_neg (fun q => q z2)]
      have q7 := q7 z2
      have e179 := s179 (d := d) (by omega) σ (x := (rdV T r : Nat)) (y := lo) (z := hi) (i32_n (by omega)) (i32_n (by omega)) (i32_n (by omega))
      by_cases z3 : lo ≤ rdV T r ∧ rdV T r ≤ hi
      · rw [if_pos z3]
        rw [decide_eq_true (by omega)] at e179
        obtain ⟨σ1, k1, k2⟩ := s191 (d := d) (by omega) hR true
        have k1 : clR PG0 MX d 191 [vR 101, vI 1] σ = some (0, σ1) := k1
        have e : rdM T true r = rdAdv T r := by unfold rdM; rw [if_neg z, if_pos rfl]
        rw [e] at k2
        have hy2 := k2.1.2
        have y1b := hy2.1; have k101b := y101_m1 hy2
        have v4 := k2.2.2.1.2.2.2.1
        have v4 : σ1 101 14 = b2i (decide (rK r ≠ 0)) := v4
        rw [decide_eq_false z] at v4
        refine ⟨σ1, ?_, k2⟩
        rw [ce_193, sg_193_0]
        (try simp (disch := omega) only [q4, wr_id2])
        repeat (first | ((with_reducible refine step_t ?_ ?_); with_reducible exact True.intro) | ((with_reducible refine step_t ?_ ?_); omega) | ((with_reducible refine step_f ?_ ?_); omega))
        refine step_t (show wr (b2i false) = 0 by decide) ?_
        (try simp (disch := omega) only [q3, q7, wr_id2])
        repeat (first | ((with_reducible refine step_t ?_ ?_); with_reducible exact True.intro) | ((with_reducible refine step_t ?_ ?_); omega) | ((with_reducible refine step_f ?_ ?_); omega))
        refine step_c (e179) ?_
        try dsimp only
        rw [wr_b2i]
        refine step_t (show b2i true ≠ 0 by decide) ?_
        rw [sg_193_55]
        (try simp (disch := omega) only [q4, wr_id2])
        repeat (first | ((with_reducible refine step_t ?_ ?_); with_reducible exact True.intro) | ((with_reducible refine step_t ?_ ?_); omega) | ((with_reducible refine step_f ?_ ?_); omega))
        refine step_f (show ¬ (wr (b2i false) ≠ 0) by decide) ?_
        rw [sg_193_68]
        repeat (first | ((with_reducible refine step_t ?_ ?_); with_reducible exact True.intro) | ((with_reducible refine step_t ?_ ?_); omega) | ((with_reducible refine step_f ?_ ?_); omega))
        refine step_c (k1) ?_
        try dsimp only
        (try simp (disch := omega) only [v4, wr_id2])
        repeat (first | ((with_reducible refine step_t ?_ ?_); with_reducible exact True.intro) | ((with_reducible refine step_t ?_ ?_); omega) | ((with_reducible refine step_f ?_ ?_); omega))
        refine step_t (show wr (b2i false) = 0 by decide) ?_
        rfl
      · rw [if_neg z3]
        rw [decide_eq_false (by omega)] at e179
        obtain ⟨σ1, k1, k2⟩ := s192 (d := d) (by omega) hR (k := 2) (by omega) (by omega) (rF r : Nat)
        have k1 : clR PG0 MX d 192 [vR 101, vI 2, vI (rF r : Nat)] σ = some (0, σ1) := k1
        rw [if_neg z] at k2
        obtain ⟨σ2, j1, j2⟩ := bad σ1 _ (rdV T r : Nat) (vI hi) (by show (2 : Nat) ≠ 0; omega) k2
        refine ⟨σ2, ?_, j2⟩
        rw [ce_193, sg_193_0]
        (try simp (disch := omega) only [q4, wr_id2])
        repeat (first | ((with_reducible refine step_t ?_ ?_); with_reducible exact True.intro) | ((with_reducible refine step_t ?_ ?_); omega) | ((with_reducible refine step_f ?_ ?_); omega))
        refine step_t (show wr (b2i false) = 0 by decide) ?_
        (try simp (disch := omega) only [q3, q7, wr_id2])
        repeat (first | ((with_reducible refine step_t ?_ ?_); with_reducible exact True.intro) | ((with_reducible refine step_t ?_ ?_); omega) | ((with_reducible refine step_f ?_ ?_); omega))
        refine step_c (e179) ?_
        try dsimp only
        rw [wr_b2i]
        refine step_f (show ¬ (b2i false ≠ 0) by decide) ?_
        (try simp (disch := omega) only [q2, wr_id2])
        repeat (first | ((with_reducible refine step_t ?_ ?_); with_reducible exact True.intro) | ((with_reducible refine step_t ?_ ?_); omega) | ((with_reducible refine step_f ?_ ?_); omega))
        refine step_c (k1) ?_
        try dsimp only
        exact j1
    · rw [if_pos z2]
      obtain ⟨σ1, k1, k2⟩ := s192 (d := d) (by omega) hR (k := 1) (by omega) (by omega) (rF r : Nat)
      have k1 : clR PG0 MX d 192 [vR 101, vI 1, vI (rF r : Nat)] σ = some (0, σ1) := k1
      rw [if_neg z] at k2
      obtain ⟨σ2, j1, j2⟩ := bad σ1 _ (σ 101 13) (vI hi) (by show (1 : Nat) ≠ 0; omega) k2
      refine ⟨σ2, ?_, j2⟩
      rw [ce_193, sg_193_0]
      (try simp (disch := omega) only [q4, wr_id2])
      repeat (first | ((with_reducible refine step_t ?_ ?_); with_reducible exact True.intro) | ((with_reducible refine step_t ?_ ?_); omega) | ((with_reducible refine step_f ?_ ?_); omega))
      refine step_t (show wr (b2i false) = 0 by decide) ?_
      (try simp (disch := omega) only [q3, q2, wr_id2])
      repeat (first | ((with_reducible refine step_t ?_ ?_); with_reducible exact True.intro) | ((with_reducible refine step_t ?_ ?_); omega) | ((with_reducible refine step_f ?_ ?_); omega))
      refine step_c (k1) ?_
      try dsimp only
      exact j1
/-- mustBeSign -/
theorem s194 {d : Nat} (h : 9 ≤ d) {σ0 σ : HP} {T : List Nat} {r : RD} (hR : RM σ0 σ T r) {c : Nat} (hc : c < 256) : ∃ σ', clR PG0 MX d 194 [vR 101, vI c] σ = some (0, σ') ∧ RM σ0 σ' T (rdS T c r) := by
  obtain ⟨d, rfl⟩ := ob1 (show 1 ≤ d by omega)
  obtain ⟨hF, hT, ⟨q1, q2, q3, q4, q5, q6, q7⟩, hok⟩ := id hR
  have hy := hF.2
  have y1 := hy.1; have k101 := y101_m1 hy; have p106 := y101_6 hy; have k106 := y106_m1 hy; have l106 := y106_m2 hy
  have l2 := hT.2.1
  have o5 := hok.2.2.2.2.1
  have o4 := hok.2.2.2.1
  have e34 : ∀ (b : Bool) (u0 u1 : MV), ∃ σ', rsP PG0 MX d 194 34 [u0, u1] [vI (b2i b), vR 101] σ = some (0, σ') ∧ RM σ0 σ' T (rdM T b r) := by
    intro b u0 u1
    obtain ⟨σ1, k1, k2⟩ := s191 (d := d) (by omega) hR b
    refine ⟨σ1, ?_, k2⟩
    rw [sg_194_34]
    repeat (first | ((with_reducible refine step_t ?_ ?_); with_reducible exact True.intro) | ((with_reducible refine step_t ?_ ?_); omega) | ((with_reducible refine step_f ?_ ?_); omega))
    refine step_c (k1) ?_
    try dsimp only
  obtain ⟨σ1, a1, a2⟩ := e34 false vU vU
  have a1 : rsP PG0 MX d 194 34 [vU, vU] [vI 0, vR 101] σ = some (0, σ1) := a1
  have off : ∀ u0 u1 : MV, rsP PG0 MX d 194 33 [u0, u1] [vR 101] σ = some (0, σ1) := by
    intro u0 u1
    rw [sg_194_33]
    exact a1
  unfold rdS
  by_cases z : rK r ≠ 0
  · rw [decide_eq_true z] at q4
    have e : rdM T false r = r := by unfold rdM; rw [if_pos z]
    rw [e] at a2
    rw [if_pos z]
    refine ⟨σ1, ?_, a2⟩
    rw [ce_194, sg_194_0]
    (try simp (disch := omega) only [q4, wr_id2])
    repeat (first | ((with_reducible refine step_t ?_ ?_); with_reducible exact True.intro) | ((with_reducible refine step_t ?_ ?_); omega) | ((with_reducible refine step_f ?_ ?_); omega))
    refine step_t (show wr (b2i true) ≠ 0 by decide) ?_
    exact off _ _
  · rw [decide_eq_false z] at q4
    have e : rdM T false r = rdBl 1 (rF r : Nat) r := by unfold rdM; rw [if_neg z, if_neg (by decide)]
    rw [e] at a2
    rw [if_neg z]
    by_cases z3 : rD r = 3
    · obtain ⟨v1, v2⟩ := hT.2.2 (rF r) _ (tv_at (o4 z3))
      have o6 := o4 z3
      by_cases z4 : tv T (rF r) = c
      · rw [if_pos ⟨z3, z4⟩]
        obtain ⟨σ2, b1, b2⟩ := e34 true (vR 101) (vI c)
        have b1 : rsP PG0 MX d 194 34 [vR 101, vI c] [vI 1, vR 101] σ = some (0, σ2) := b1
        have e2 : rdM T true r = rdAdv T r := by unfold rdM; rw [if_neg z, if_pos rfl]
        rw [e2] at b2
        refine ⟨σ2, ?_, b2⟩
        rw [ce_194, sg_194_0]
        (try simp (disch := omega) only [q4, wr_id2])
        repeat (first | ((with_reducible refine step_t ?_ ?_); with_reducible exact True.intro) | ((with_reducible refine step_t ?_ ?_); omega) | ((with_reducible refine step_f ?_ ?_); omega))
        refine step_f (show ¬ (wr (b2i false) ≠ 0) by decide) ?_
        (try simp (disch := omega) only [q3, p106, q2, v2, wr_id2])
        repeat (first | ((with_reducible refine step_t ?_ ?_); with_reducible exact True.intro) | ((with_reducible refine step_t ?_ ?_); omega) | ((with_reducible refine step_f ?_ ?_); omega))
        exact b1
      · rw [if_neg (fun q => z4 q.2)]
        refine ⟨σ1, ?_, a2⟩
        rw [ce_194, sg_194_0]
        (try simp (disch := omega) only [q4, wr_id2])
        repeat (first | ((with_reducible refine step_t ?_ ?_); with_reducible exact True.intro) | ((with_reducible refine step_t ?_ ?_); omega) | ((with_reducible refine step_f ?_ ?_); omega))
        refine step_f (show ¬ (wr (b2i false) ≠ 0) by decide) ?_
        (try simp (disch := omega) only [q3, p106, q2, v2, wr_id2])
        repeat (first | ((with_reducible refine step_t ?_ ?_); with_reducible exact True.intro) | ((with_reducible refine step_t ?_ ?_); omega) | ((with_reducible refine step_f ?_ ?_); omega))
        exact off _ _
    · rw [if_neg (fun q => z3 q.1)]
      refine ⟨σ1, ?_, a2⟩
      rw [ce_194, sg_194_0]
      (try simp (disch := omega) only [q4, wr_id2])
      repeat (first | ((with_reducible refine step_t ?_ ?_); with_reducible exact True.intro) | ((with_reducible refine step_t ?_ ?_); omega) | ((with_reducible refine step_f ?_ ?_); omega))
      refine step_f (show ¬ (wr (b2i false) ≠ 0) by decide) ?_
      (try simp (disch := omega) only [q3, wr_id2])
      repeat (first | ((with_reducible refine step_t ?_ ?_); with_reducible exact True.intro) | ((with_reducible refine step_t ?_ ?_); omega) | ((with_reducible refine step_f ?_ ?_); omega))
      exact off _ _
/-- readsBits -/
def RN (σ0 σ : HP) (T : List Nat) (r : RD) : Prop := ((∀ a j, a ≠ 105 → (a ≠ 101 ∨ (j ≠ 5 ∧ (j < 8 ∨ 14 < j))) → σ a j = σ0 a j) ∧ Lay σ) ∧ inR σ 101 106 400 7 T ∧ (σ 101 10 = rT r ∧ σ 101 11 = rF r ∧ σ 101 12 = rD r ∧ σ 101 14 = b2i (decide (rK r ≠ 0)) ∧ σ 101 8 = rK r ∧ σ 101 9 = rP r ∧ (rD r = 2 → σ 101 13 = rdV T r)) ∧ rdOk T r
theorem RM.rn {σ0 σ : HP} {T : List Nat} {r : RD} (h : RM σ0 σ T r) : RN σ0 σ T r := ⟨⟨fun a j _ h2 => h.1.1 a j (by omega), h.1.2⟩, h.2⟩
theorem RN.rm {σ0 σ : HP} {T : List Nat} {r : RD} (h : RN σ0 σ T r) : RM σ σ T r := ⟨⟨fun _ _ _ => rfl, h.1.2⟩, h.2⟩
theorem RN.tr {σ0 σ σ' : HP} {T : List Nat} {r r' : RD} (h : RN σ0 σ T r) (h2 : RM σ σ' T r') : RN σ0 σ' T r' := ⟨⟨fun a j h3 h4 => by rw [h2.1.1 a j (by omega)]; exact h.1.1 a j h3 h4, h2.1.2⟩, h2.2⟩
theorem RN.fd {σ0 σ σ' : HP} {T : List Nat} {r : RD} (h : RN σ0 σ T r) (h2 : FD σ σ') : RN σ0 σ' T r := by
  obtain ⟨hF, hT, ⟨q1, q2, q3, q4, q5, q6, q7⟩, hok⟩ := h
  have e : ∀ j, j ≠ 5 → σ' 101 j = σ 101 j := fun j hj => h2.1 _ _ (by omega) (by omega)
  refine ⟨⟨fun a j h3 h4 => by rw [h2.1 a j h3 (by omega)]; exact hF.1 a j h3 h4, h2.2⟩, inR_same hT (e _ (by omega)) (fun j => h2.1 _ _ (by omega) (by omega)), ⟨by rw [e _ (by omega)]; exact q1, by rw [e _ (by omega)]; exact q2, by rw [e _ (by omega)]; exact q3, by rw [e _ (by omega)]; exact q4, by rw [e _ (by omega)]; exact q5, by rw [e _ (by omega)]; exact q6, fun q => by rw [e _ (by omega)]; exact q7 q⟩, hok⟩
theorem md_rm {σ σ' : HP} {T : List Nat} {r : RD} {l : List Nat} (h : mdR σ l) (h2 : RM σ σ' T r) : mdR σ' l := mdR_same h (h2.1.1 _ _ (by omega)) (fun j => h2.1.1 _ _ (by omega))
theorem s195l {d : Nat} (h : 1 ≤ d) {σ0 : HP} {T : List Nat} {N : Nat} (hN : N ≤ 8) : ∀ (m p : Nat) (σ : HP) (l : List Nat) (r : RD) (u3 : MV), p + m = rT r → rF r ≤ p → rD r = 2 → rK r = 0 → l.length ≤ 256 → RN σ0 σ T r → mdR σ l → ∃ (σ' : HP) (u2 : MV), rsP PG0 MX d 195 26 [vR 101, vI N, vI p, u3] [] σ = rsP PG0 MX d 195 95 [vR 101, vI N, u2, vU] [] σ' ∧ RN σ0 σ' T (rbF T N m p l r).2 ∧ mdR σ' (rbF T N m p l r).1 := by
  intro m
  induction m with
  | zero =>
    intro p σ l r u3 hp hf h2 h0 hl hR hD
    obtain ⟨hF, hT, ⟨q1, q2, q3, q4, q5, q6, q7⟩, hok⟩ := id hR
    have hy := hF.2
    have y1 := hy.1; have k101 := y101_m1 hy
    have l2 := hT.2.1
    have o2 := hok.2.1
    refine ⟨σ, vI p, ?_, hR, hD⟩
    rw [sg_195_26]
    (try simp (disch := omega) only [q1, wr_id2])
    repeat (first | ((with_reducible refine step_t ?_ ?_); with_reducible exact True.intro) | ((with_reducible refine step_t ?_ ?_); omega) | ((with_reducible refine step_f ?_ ?_); omega))
    rfl
  | succ m ih =>
    intro p σ l r u3 hp hf h2 h0 hl hR hD
    obtain ⟨hF, hT, ⟨q1, q2, q3, q4, q5, q6, q7⟩, hok⟩ := id hR
    have hy := hF.2
    have y1 := hy.1; have k101 := y101_m1 hy; have p106 := y101_6 hy; have k106 := y106_m1 hy; have l106 := y106_m2 hy
    have l2 := hT.2.1
    have d5 := hD.1
    obtain ⟨o1, o2, o3, o4, o5, o6⟩ := id hok
    obtain ⟨w1, w2⟩ := o3 h2 p hf (by omega)
    obtain ⟨v1, v2⟩ := hT.2.2 p _ (tv_at (show p < T.length by omega))
    rw [decide_eq_false (show ¬ (rK r ≠ 0) from fun q => q h0)] at q4
    have eb : ((tv T p : Nat) : Int) - 48 = ((tv T p - 48 : Nat) : Int) := by omega
    have stop : ∀ (σ : HP) (r' : RD), rK r' ≠ 0 → rT r' = rT r → RN σ0 σ T r' → rsP PG0 MX d 195 26 [vR 101, vI N, vI ((p : Int) + 1), vU] [] σ = rsP PG0 MX d 195 95 [vR 101, vI N, vI ((p : Int) + 1), vU] [] σ := by
      intro σ r' hk0 ht hR
      obtain ⟨hF, hT, ⟨q1, q2, q3, q4, q5, q6, q7⟩, hok⟩ := id hR
      have hy := hF.2
      have y1 := hy.1; have k101 := y101_m1 hy
      rw [decide_eq_true hk0] at q4
      rw [sg_195_26]
      (try simp (disch := omega) only [q1, q4, wr_id2])
      refine step_t (by omega) ?_
      by_cases z : rT r' ≤ p + 1
      · refine step_t (by omega) ?_
        rfl
      · refine step_f (by omega) ?_
        repeat (first | ((with_reducible refine step_t ?_ ?_); with_reducible exact True.intro) | ((with_reducible refine step_t ?_ ?_); omega) | ((with_reducible refine step_f ?_ ?_); omega))
        refine step_t (show wr (b2i true) ≠ 0 by decide) ?_
        rfl
    unfold rbF
    by_cases z : N ≤ tv T p - 48
    · rw [if_pos z]
      obtain ⟨σ1, j1, j2⟩ := s192 (d := d) h hR.rm (k := 3) (by omega) (by omega) (p : Nat)
      have j1 : clR PG0 MX d 192 [vR 101, vI 3, vI p] σ = some (0, σ1) := j1
      rw [if_neg (fun q => q h0)] at j2
      refine ⟨σ1, vI ((p : Int) + 1), ?_, hR.tr j2, md_rm hD j2⟩
      rw [sg_195_26]
      (try simp (disch := omega) only [q1, q4, wr_id2])
      repeat (first | ((with_reducible refine step_t ?_ ?_); with_reducible exact True.intro) | ((with_reducible refine step_t ?_ ?_); omega) | ((with_reducible refine step_f ?_ ?_); omega))
      refine step_f (show ¬ (wr (b2i false) ≠ 0) by decide) ?_
      (try simp (disch := omega) only [p106, v2, wr_id2])
      repeat (first | ((with_reducible refine step_t ?_ ?_); with_reducible exact True.intro) | ((with_reducible refine step_t ?_ ?_); omega) | ((with_reducible refine step_f ?_ ?_); omega))
      refine step_c (j1) ?_
      try dsimp only
      exact stop σ1 (rdBl 3 (p : Nat) r) (by show (3 : Nat) ≠ 0; omega) rfl (hR.tr j2)
    · rw [if_neg z]
      by_cases z2 : 256 ≤ l.length
      · rw [if_pos z2]
        obtain ⟨σ1, j1, j2⟩ := s192 (d := d) h hR.rm (k := 4) (by omega) (by omega) (p : Nat)
        have j1 : clR PG0 MX d 192 [vR 101, vI 4, vI p] σ = some (0, σ1) := j1
        rw [if_neg (fun q => q h0)] at j2
        refine ⟨σ1, vI ((p : Int) + 1), ?_, hR.tr j2, md_rm hD j2⟩
        rw [sg_195_26]
        (try simp (disch := omega) only [q1, q4, wr_id2])
        repeat (first | ((with_reducible refine step_t ?_ ?_); with_reducible exact True.intro) | ((with_reducible refine step_t ?_ ?_); omega) | ((with_reducible refine step_f ?_ ?_); omega))
        refine step_f (show ¬ (wr (b2i false) ≠ 0) by decide) ?_
        (try simp (disch := omega) only [p106, v2, d5, wr_id2])
        repeat (first | ((with_reducible refine step_t ?_ ?_); with_reducible exact True.intro) | ((with_reducible refine step_t ?_ ?_); omega) | ((with_reducible refine step_f ?_ ?_); omega))
        refine step_c (j1) ?_
        try dsimp only
        exact stop σ1 (rdBl 4 (p : Nat) r) (by show (4 : Nat) ≠ 0; omega) rfl (hR.tr j2)
      · rw [if_neg z2]
        obtain ⟨σ1, j1, D1⟩ := dm_push (d := d) h (show DM σ σ l from ⟨FD.rf hy, hD⟩) (by omega) (tv T p - 48)
        obtain ⟨σ2, u2, k1, k2, k3⟩ := ih (p + 1) σ1 (l ++ [tv T p - 48]) r vU (by omega) (by omega) h2 h0 (by rw [List.length_append]; show l.length + 1 ≤ 256; omega) (hR.fd D1.1) D1.2
        refine ⟨σ2, u2, ?_, k2, k3⟩
        rw [sg_195_26]
        (try simp (disch := omega) only [q1, q4, wr_id2])
        repeat (first | ((with_reducible refine step_t ?_ ?_); with_reducible exact True.intro) | ((with_reducible refine step_t ?_ ?_); omega) | ((with_reducible refine step_f ?_ ?_); omega))
        refine step_f (show ¬ (wr (b2i false) ≠ 0) by decide) ?_
        (try simp (disch := omega) only [p106, v2, d5, eb, wr_id2])
        repeat (first | ((with_reducible refine step_t ?_ ?_); with_reducible exact True.intro) | ((with_reducible refine step_t ?_ ?_); omega) | ((with_reducible refine step_f ?_ ?_); omega))
        refine step_c (j1) ?_
        try dsimp only
        exact k1
theorem s195 {d : Nat} (h : 9 ≤ d) {σ0 σ : HP} {T : List Nat} {N : Nat} (hN : N ≤ 8) {r : RD} (hR : RN σ0 σ T r) : ∃ σ', clR PG0 MX d 195 [vR 101, vI N] σ = some (0, σ') ∧ RN σ0 σ' T (if rK r = 0 then rdB T N r else ([], r)).2 ∧ mdR σ' (if rK r = 0 then rdB T N r else ([], r)).1 := by
  obtain ⟨d, rfl⟩ := ob1 (show 1 ≤ d by omega)
  obtain ⟨hF, hT, ⟨q1, q2, q3, q4, q5, q6, q7⟩, hok⟩ := id hR
  have hy := hF.2
  have y1 := hy.1; have k101 := y101_m1 hy
  have l2 := hT.2.1
  obtain ⟨o1, o2, o3, o4, o5, o6⟩ := id hok
  have D0 := dm_0 hy
  have R0 := hR.fd D0.1
  have hy0 := D0.1.2
  have y1b := hy0.1; have k101b := y101_m1 hy0
  obtain ⟨-, -, ⟨p1, p2, p3, p4, p5, p6, p7⟩, -⟩ := id R0
  by_cases z0 : rK r = 0
  · rw [if_pos z0]
    rw [decide_eq_false (show ¬ (rK r ≠ 0) from fun q => q z0)] at p4
    unfold rdB
    by_cases z : rD r = 2
    · rw [if_pos z]
      obtain ⟨σ1, u2, k1, k2, k3⟩ := s195l (d := d) (by omega) hN (rT r - rF r) (rF r) _ [] r vU (by omega) (Nat.le_refl _) z z0 (Nat.zero_le _) R0 D0.2
      generalize hq : rbF T N (rT r - rF r) (rF r) [] r = q at *
      have hy1 := k2.1.2
      have y1c := hy1.1; have k101c := y101_m1 hy1
      have w4 := k2.2.2.1.2.2.2.1
      have start : ∀ X, rsP PG0 MX d 195 95 [vR 101, vI N, u2, vU] [] σ1 = X → clR PG0 MX (d + 1) 195 [vR 101, vI N] σ = X := by
        intro X hX
        rw [ce_195, sg_195_0]
        (try simp (disch := omega) only [p4, p3, p2, wr_id2])
        repeat (first | ((with_reducible refine step_t ?_ ?_); with_reducible exact True.intro) | ((with_reducible refine step_t ?_ ?_); omega) | ((with_reducible refine step_f ?_ ?_); omega))
        refine step_f (show ¬ (wr (b2i false) ≠ 0) by decide) ?_
        (try simp (disch := omega) only [p4, p3, p2, wr_id2])
        repeat (first | ((with_reducible refine step_t ?_ ?_); with_reducible exact True.intro) | ((with_reducible refine step_t ?_ ?_); omega) | ((with_reducible refine step_f ?_ ?_); omega))
        exact k1.trans hX
      by_cases z2 : rK q.2 = 0
      · rw [if_pos z2]
        rw [decide_eq_false (show ¬ (rK q.2 ≠ 0) from fun w => w z2)] at w4
        obtain ⟨σ2, j1, j2⟩ := s191 (d := d) (by omega) k2.rm true
        have j1 : clR PG0 MX d 191 [vR 101, vI 1] σ1 = some (0, σ2) := j1
        have e : rdM T true q.2 = rdAdv T q.2 := by unfold rdM; rw [if_neg (fun w => w z2), if_pos rfl]
        rw [e] at j2
        refine ⟨σ2, start _ ?_, k2.tr j2, md_rm k3 j2⟩
        rw [sg_195_95]
        (try simp (disch := omega) only [w4, wr_id2])
        repeat (first | ((with_reducible refine step_t ?_ ?_); with_reducible exact True.intro) | ((with_reducible refine step_t ?_ ?_); omega) | ((with_reducible refine step_f ?_ ?_); omega))
        refine step_f (show ¬ (wr (b2i false) ≠ 0) by decide) ?_
        rw [sg_195_108]
        repeat (first | ((with_reducible refine step_t ?_ ?_); with_reducible exact True.intro) | ((with_reducible refine step_t ?_ ?_); omega) | ((with_reducible refine step_f ?_ ?_); omega))
        refine step_c (j1) ?_
        try dsimp only
      · rw [if_neg z2]
        rw [decide_eq_true (show rK q.2 ≠ 0 from z2)] at w4
        obtain ⟨σ2, j1, j2⟩ := s191 (d := d) (by omega) k2.rm false
        have j1 : clR PG0 MX d 191 [vR 101, vI 0] σ1 = some (0, σ2) := j1
        have e : rdM T false q.2 = q.2 := by unfold rdM; rw [if_pos z2]
        rw [e] at j2
        refine ⟨σ2, start _ ?_, k2.tr j2, md_rm k3 j2⟩
        rw [sg_195_95]
        (try simp (disch := omega) only [w4, wr_id2])
        repeat (first | ((with_reducible refine step_t ?_ ?_); with_reducible exact True.intro) | ((with_reducible refine step_t ?_ ?_); omega) | ((with_reducible refine step_f ?_ ?_); omega))
        refine step_t (show wr (b2i true) ≠ 0 by decide) ?_
        rw [sg_195_108]
        repeat (first | ((with_reducible refine step_t ?_ ?_); with_reducible exact True.intro) | ((with_reducible refine step_t ?_ ?_); omega) | ((with_reducible refine step_f ?_ ?_); omega))
        refine step_c (j1) ?_
        try dsimp only
    · rw [if_neg z]
      refine ⟨_, ?_, R0, D0.2⟩
      rw [ce_195, sg_195_0]
      (try simp (disch := omega) only [p4, p3, wr_id2])
      repeat (first | ((with_reducible refine step_t ?_ ?_); with_reducible exact True.intro) | ((with_reducible refine step_t ?_ ?_); omega) | ((with_reducible refine step_f ?_ ?_); omega))
      refine step_f (show ¬ (wr (b2i false) ≠ 0) by decide) ?_
      (try simp (disch := omega) only [p4, p3, wr_id2])
      repeat (first | ((with_reducible refine step_t ?_ ?_); with_reducible exact True.intro) | ((with_reducible refine step_t ?_ ?_); omega) | ((with_reducible refine step_f ?_ ?_); omega))
      rfl
  · rw [if_neg z0]
    rw [decide_eq_true (show rK r ≠ 0 from z0)] at p4
    refine ⟨_, ?_, R0, D0.2⟩
    rw [ce_195, sg_195_0]
    (try simp (disch := omega) only [p4, wr_id2])
    repeat (first | ((with_reducible refine step_t ?_ ?_); with_reducible exact True.intro) | ((with_reducible refine step_t ?_ ?_); omega) | ((with_reducible refine step_f ?_ ?_); omega))
    refine step_t (show wr (b2i true) ≠ 0 by decide) ?_
    rfl
