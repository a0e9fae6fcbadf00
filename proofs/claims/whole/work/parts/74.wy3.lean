/-! THE SHORTEST WAY: the reference -/
theorem slR_fq {σ σ' : HP} {n : Nat} {L : LB} (h : FQ σ σ') (hr : slR σ n L) : slR σ' n L := by
  obtain ⟨r1, r2, r3, r4, r5, r6⟩ := hr
  have e : ∀ j, σ' 102 j = σ 102 j := fun j => h.1 _ _ (by omega)
  exact ⟨by rw [e]; exact r1, by rw [e]; exact r2, by rw [e]; exact r3, by rw [e]; exact r4, by rw [e]; exact r5, fun i x hx => by rw [e]; exact r6 i x hx⟩
def WM (σ0 σ : HP) (L : LB) : Prop := FQ σ0 σ ∧ ∀ w : Nat, w < 256 → σ 108 w = (cW L w : Nat)
theorem WM.up {σ0 σ : HP} {L : LB} (h : WM σ0 σ L) {j v : Int} (hj : 0 ≤ j) : WM σ0 (up σ 111 j v) L := ⟨h.1.upd (by omega) okr_111 hj, fun w hw => by rw [up_n1 _ _ _ _ (by omega)]; exact h.2 w hw⟩
theorem s259k {d : Nat} (h : 3 ≤ d) {σ0 : HP} {n : Nat} (hn : n < 3) {L : LB} (hr0 : slR σ0 n L) (hw : wf0 L) {a bb : Nat} (ha : a < 2 ^ lN0 L) (hbb : bb < 2 ^ lN0 L) {y u : Nat} (hy2 : y < 256) (hu : u < 2 ^ lN0 L) : ∀ (m k : Nat) (σ : HP) (u7 : MV), k + m = lN0 L → WM σ0 σ L → σ 111 u = y → LN (lN0 L) (alW L bb) a (fun v => σ 111 v) y u k → ∃ σ' k', rsP PG0 MX d 259 112 [vR 101, vI n, vU, vI bb, vI y, vI u, vI k, u7] [] σ = rsP PG0 MX d 259 82 [vR 101, vI n, vU, vI bb, vI y, vI ((u : Int) + 1), vU, vU] [] σ' ∧ WM σ0 σ' L ∧ LN (lN0 L) (alW L bb) a (fun v => σ' 111 v) y u (lN0 L) ∧ k' = 0 := by
  have h9 := hw.1
  have hp8 := pow8 hw.1
  intro m
  induction m with
  | zero =>
    intro k σ u7 hk hq hv hn2
    have ek : k = lN0 L := by omega
    subst ek
    have hy := hq.1.2
    have y1 := hy.1; have k101 := y101_m1 hy
    refine ⟨σ, 0, ?_, hq, hn2, rfl⟩
    rw [sg_259_112]
    repeat (first | ((with_reducible refine step_t ?_ ?_); with_reducible exact True.intro) | ((with_reducible refine step_t ?_ ?_); omega) | ((with_reducible refine step_f ?_ ?_); omega))
    refine step_c (s207 (by omega) hy hn (slR_fq hq.1 hr0)) ?_
    try dsimp only
    (try simp (disch := omega) only [wr_id2])
    repeat (first | ((with_reducible refine step_t ?_ ?_); with_reducible exact True.intro) | ((with_reducible refine step_t ?_ ?_); omega) | ((with_reducible refine step_f ?_ ?_); omega))
    rfl
  | succ m ih =>
    intro k σ u7 hk hq hv hn2
    have hr := slR_fq hq.1 hr0
    have hy := hq.1.2
    have y1 := hy.1; have k101 := y101_m1 hy; have p108 := y101_16 hy; have k108 := y108_m1 hy; have l108 := y108_m2 hy; have p111 := y101_24 hy; have k111 := y111_m1 hy; have l111 := y111_m2 hy
    have hk2 : 2 ^ k < 2 ^ lN0 L := Nat.pow_lt_pow_right (by omega) (by omega)
    have vb : u ^^^ 2 ^ k < 2 ^ lN0 L := Nat.xor_lt_two_pow hu hk2
    have ex : i_xor ((u : Nat) : Int) (i_shl 1 (k : Int)) = ((u ^^^ 2 ^ k : Nat) : Int) := by rw [shl1 (by omega)]; exact i_xor_n (by omega) (by omega)
    have e207 := s207 (d := d) (by omega) hy hn hr
    have e208 := s208 (d := d) (by omega) hy hn hr hw (x := u ^^^ 2 ^ k) (by omega)
    have c1 := cwN_le L (u ^^^ 2 ^ k) (shN L)
    have ec : cW L (u ^^^ 2 ^ k) = cwN L (u ^^^ 2 ^ k) (shN L) := rfl
    have hsh := shN_le L
    have hl := wf_len hw
    have h108 := hq.2 (u ^^^ 2 ^ k) (by omega)
    have dv := hn2.1 (u ^^^ 2 ^ k) (by omega)
    have vi : -1 ≤ σ 111 ((u ^^^ 2 ^ k : Nat) : Int) ∧ σ 111 ((u ^^^ 2 ^ k : Nat) : Int) ≤ 257 := by
      rcases dv with q | ⟨x, x1, x2, -⟩
      · dsimp only at q; omega
      · dsimp only at x2; omega
    clear dv
    have hpu := fun D' => hn2.push (v := u ^^^ 2 ^ k) (D' := D') h9 ha (by omega) hu hv rfl
    have hsk := hn2.sk
    have skp : (alW L bb (u ^^^ 2 ^ k) = true → σ 111 ((u ^^^ 2 ^ k : Nat) : Int) ≠ -1) → ∃ σ' k', rsP PG0 MX d 259 112 [vR 101, vI n, vU, vI bb, vI y, vI u, vI ((k : Int) + 1), vU] [] σ = rsP PG0 MX d 259 82 [vR 101, vI n, vU, vI bb, vI y, vI ((u : Int) + 1), vU, vU] [] σ' ∧ WM σ0 σ' L ∧ LN (lN0 L) (alW L bb) a (fun v => σ' 111 v) y u (lN0 L) ∧ k' = 0 := fun q => ih (k + 1) σ vU (by omega) hq hv (hsk q)
    have psh : alW L bb (u ^^^ 2 ^ k) = true → σ 111 ((u ^^^ 2 ^ k : Nat) : Int) = -1 → ∃ σ' k', rsP PG0 MX d 259 168 [vR 101, vI n, vU, vI bb, vI y, vI u, vI k, vI ((u ^^^ 2 ^ k : Nat) : Int)] [] σ = rsP PG0 MX d 259 82 [vR 101, vI n, vU, vI bb, vI y, vI ((u : Int) + 1), vU, vU] [] σ' ∧ WM σ0 σ' L ∧ LN (lN0 L) (alW L bb) a (fun v => σ' 111 v) y u (lN0 L) ∧ k' = 0 := fun q1 q2 => by
      have ne : u ≠ u ^^^ 2 ^ k := fun q => by rw [← q, hv] at q2; omega
      have nl := hpu (fun v => (up σ 111 ((u ^^^ 2 ^ k : Nat) : Int) ((y : Int) + 1)) 111 v) q1 q2 (up_s _ _ _ _) (fun w hw2 hne => up_n2 _ _ _ _ (by omega))
      obtain ⟨σ', k', j1, j2⟩ := ih (k + 1) (up σ 111 ((u ^^^ 2 ^ k : Nat) : Int) ((y : Int) + 1)) vU (by omega) (hq.up (by omega)) (by rw [up_n2 _ _ _ _ (by omega)]; exact hv) nl
      refine ⟨σ', k', ?_, j2⟩
      rw [sg_259_168]
      (try simp (disch := omega) only [p111, wr_id2])
      repeat (first | ((with_reducible refine step_t ?_ ?_); with_reducible exact True.intro) | ((with_reducible refine step_t ?_ ?_); omega) | ((with_reducible refine step_f ?_ ?_); omega))
      exact j1
    clear hpu hsk ih
    have ea : alW L bb (u ^^^ 2 ^ k) = (decide (u ^^^ 2 ^ k = bb) || (inSc L (u ^^^ 2 ^ k) && decide (cW L (u ^^^ 2 ^ k) = 0))) := rfl
    rw [sg_259_112]
    generalize u ^^^ 2 ^ k = v at *
    by_cases z1 : σ 111 (v : Int) = -1
    · by_cases z2 : v = bb
      · obtain ⟨σ', k', j1, j2⟩ := psh (by rw [ea, decide_eq_true z2, Bool.true_or]) z1
        refine ⟨σ', k', ?_, j2⟩
        refine Eq.trans ?_ j1
        repeat (first | ((with_reducible refine step_t ?_ ?_); with_reducible exact True.intro) | ((with_reducible refine step_t ?_ ?_); omega) | ((with_reducible refine step_f ?_ ?_); omega))
        refine step_c (e207) ?_
        try dsimp only
        rw [ex]
        (try simp (disch := omega) only [p111, wr_id2])
        repeat (first | ((with_reducible refine step_t ?_ ?_); with_reducible exact True.intro) | ((with_reducible refine step_t ?_ ?_); omega) | ((with_reducible refine step_f ?_ ?_); omega))
        rfl
      · rw [decide_eq_false z2, Bool.false_or] at ea
        cases z3 : inSc L v with
        | false =>
          rw [z3, Bool.false_and] at ea
          rw [z3] at e208
          obtain ⟨σ', k', j1, j2⟩ := skp (fun q => by rw [ea] at q; cases q)
          refine ⟨σ', k', ?_, j2⟩
          refine Eq.trans ?_ j1
          repeat (first | ((with_reducible refine step_t ?_ ?_); with_reducible exact True.intro) | ((with_reducible refine step_t ?_ ?_); omega) | ((with_reducible refine step_f ?_ ?_); omega))
          refine step_c (e207) ?_
          try dsimp only
          rw [ex]
          (try simp (disch := omega) only [p111, wr_id2])
          repeat (first | ((with_reducible refine step_t ?_ ?_); with_reducible exact True.intro) | ((with_reducible refine step_t ?_ ?_); omega) | ((with_reducible refine step_f ?_ ?_); omega))
          refine step_c (e208) ?_
          try dsimp only
          rw [wr_b2i]
          refine step_t (show b2i false = 0 by decide) ?_
          rfl
        | true =>
          rw [z3, Bool.true_and] at ea
          rw [z3] at e208
          by_cases z4 : cW L v = 0
          · rw [decide_eq_true z4] at ea
            obtain ⟨σ', k', j1, j2⟩ := psh ea z1
            refine ⟨σ', k', ?_, j2⟩
            refine Eq.trans ?_ j1
            repeat (first | ((with_reducible refine step_t ?_ ?_); with_reducible exact True.intro) | ((with_reducible refine step_t ?_ ?_); omega) | ((with_reducible refine step_f ?_ ?_); omega))
            refine step_c (e207) ?_
            try dsimp only
            rw [ex]
            (try simp (disch := omega) only [p111, wr_id2])
            repeat (first | ((with_reducible refine step_t ?_ ?_); with_reducible exact True.intro) | ((with_reducible refine step_t ?_ ?_); omega) | ((with_reducible refine step_f ?_ ?_); omega))
            refine step_c (e208) ?_
            try dsimp only
            rw [wr_b2i]
            refine step_f (show ¬ (b2i true = 0) by decide) ?_
            (try simp (disch := omega) only [p108, h108, wr_id2])
            repeat (first | ((with_reducible refine step_t ?_ ?_); with_reducible exact True.intro) | ((with_reducible refine step_t ?_ ?_); omega) | ((with_reducible refine step_f ?_ ?_); omega))
            rfl
          · rw [decide_eq_false z4] at ea
            obtain ⟨σ', k', j1, j2⟩ := skp (fun q => by rw [ea] at q; cases q)
            refine ⟨σ', k', ?_, j2⟩
            refine Eq.trans ?_ j1
            repeat (first | ((with_reducible refine step_t ?_ ?_); with_reducible exact True.intro) | ((with_reducible refine step_t ?_ ?_); omega) | ((with_reducible refine step_f ?_ ?_); omega))
            refine step_c (e207) ?_
            try dsimp only
            rw [ex]
            (try simp (disch := omega) only [p111, wr_id2])
            repeat (first | ((with_reducible refine step_t ?_ ?_); with_reducible exact True.intro) | ((with_reducible refine step_t ?_ ?_); omega) | ((with_reducible refine step_f ?_ ?_); omega))
            refine step_c (e208) ?_
            try dsimp only
            rw [wr_b2i]
            refine step_f (show ¬ (b2i true = 0) by decide) ?_
            (try simp (disch := omega) only [p108, h108, wr_id2])
            repeat (first | ((with_reducible refine step_t ?_ ?_); with_reducible exact True.intro) | ((with_reducible refine step_t ?_ ?_); omega) | ((with_reducible refine step_f ?_ ?_); omega))
            rfl
    · obtain ⟨σ', k', j1, j2⟩ := skp (fun _ => z1)
      refine ⟨σ', k', ?_, j2⟩
      refine Eq.trans ?_ j1
      repeat (first | ((with_reducible refine step_t ?_ ?_); with_reducible exact True.intro) | ((with_reducible refine step_t ?_ ?_); omega) | ((with_reducible refine step_f ?_ ?_); omega))
      refine step_c (e207) ?_
      try dsimp only
      rw [ex]
      (try simp (disch := omega) only [p111, wr_id2])
      repeat (first | ((with_reducible refine step_t ?_ ?_); with_reducible exact True.intro) | ((with_reducible refine step_t ?_ ?_); omega) | ((with_reducible refine step_f ?_ ?_); omega))
      rfl
theorem s259u {d : Nat} (h : 3 ≤ d) {σ0 : HP} {n : Nat} (hn : n < 3) {L : LB} (hr0 : slR σ0 n L) (hw : wf0 L) {a bb : Nat} (ha : a < 2 ^ lN0 L) (hbb : bb < 2 ^ lN0 L) {y : Nat} (hy2 : y < 256) : ∀ (m u : Nat) (σ : HP) (u6 u7 : MV), u + m = 2 ^ lN0 L → WM σ0 σ L → LN (lN0 L) (alW L bb) a (fun v => σ 111 v) y u 0 → ∃ σ', rsP PG0 MX d 259 82 [vR 101, vI n, vU, vI bb, vI y, vI u, u6, u7] [] σ = rsP PG0 MX d 259 61 [vR 101, vI n, vU, vI bb, vI ((y : Int) + 1), vI ((2 ^ lN0 L : Nat) : Int), vU, vU] [] σ' ∧ WM σ0 σ' L ∧ LI (lN0 L) (alW L bb) a (fun v => σ' 111 v) (y + 1) := by
  have h9 := hw.1
  have hp8 := pow8 hw.1
  intro m
  induction m with
  | zero =>
    intro u σ u6 u7 hk hq hn2
    have ek : u = 2 ^ lN0 L := by omega
    subst ek
    have hy := hq.1.2
    have y1 := hy.1; have k101 := y101_m1 hy
    refine ⟨σ, ?_, hq, hn2.li h9 ha⟩
    rw [sg_259_82]
    repeat (first | ((with_reducible refine step_t ?_ ?_); with_reducible exact True.intro) | ((with_reducible refine step_t ?_ ?_); omega) | ((with_reducible refine step_f ?_ ?_); omega))
    refine step_c (s207 (by omega) hy hn (slR_fq hq.1 hr0)) ?_
    try dsimp only
    (try simp (disch := omega) only [shl1 (x := lN0 L) (by omega), wr_id2])
    repeat (first | ((with_reducible refine step_t ?_ ?_); with_reducible exact True.intro) | ((with_reducible refine step_t ?_ ?_); omega) | ((with_reducible refine step_f ?_ ?_); omega))
    rfl
  | succ m ih =>
    intro u σ u6 u7 hk hq hn2
    have hy := hq.1.2
    have y1 := hy.1; have k101 := y101_m1 hy; have p111 := y101_24 hy; have k111 := y111_m1 hy; have l111 := y111_m2 hy
    have e207 := s207 (d := d) (by omega) hy hn (slR_fq hq.1 hr0)
    have sh := shl1 (x := lN0 L) (by omega)
    have dv := hn2.1 u (by omega)
    have vi : -1 ≤ σ 111 (u : Int) ∧ σ 111 (u : Int) ≤ 257 := by
      rcases dv with q | ⟨x, x1, x2, -⟩
      · dsimp only at q; omega
      · dsimp only at x2; omega
    clear dv
    by_cases z : σ 111 (u : Int) = y
    · obtain ⟨σ1, -, k1, k2, k3, -⟩ := s259k (d := d) h hn hr0 hw ha hbb hy2 (u := u) (by omega) (lN0 L) 0 σ vU (by omega) hq z hn2
      obtain ⟨σ2, j1, j2⟩ := ih (u + 1) σ1 vU vU (by omega) k2 k3.nx
      refine ⟨σ2, ?_, j2⟩
      rw [sg_259_82]
      repeat (first | ((with_reducible refine step_t ?_ ?_); with_reducible exact True.intro) | ((with_reducible refine step_t ?_ ?_); omega) | ((with_reducible refine step_f ?_ ?_); omega))
      refine step_c (e207) ?_
      try dsimp only
      (try simp (disch := omega) only [sh, p111, wr_id2])
      repeat (first | ((with_reducible refine step_t ?_ ?_); with_reducible exact True.intro) | ((with_reducible refine step_t ?_ ?_); omega) | ((with_reducible refine step_f ?_ ?_); omega))
      exact k1.trans j1
    · obtain ⟨σ2, j1, j2⟩ := ih (u + 1) σ vU vU (by omega) hq (hn2.n0 z)
      refine ⟨σ2, ?_, j2⟩
      rw [sg_259_82]
      repeat (first | ((with_reducible refine step_t ?_ ?_); with_reducible exact True.intro) | ((with_reducible refine step_t ?_ ?_); omega) | ((with_reducible refine step_f ?_ ?_); omega))
      refine step_c (e207) ?_
      try dsimp only
      (try simp (disch := omega) only [sh, p111, wr_id2])
      repeat (first | ((with_reducible refine step_t ?_ ?_); with_reducible exact True.intro) | ((with_reducible refine step_t ?_ ?_); omega) | ((with_reducible refine step_f ?_ ?_); omega))
      exact j1
theorem s259n {d : Nat} (h : 3 ≤ d) {σ0 : HP} {n : Nat} (hn : n < 3) {L : LB} (hr0 : slR σ0 n L) (hw : wf0 L) {a bb : Nat} (ha : a < 2 ^ lN0 L) (hbb : bb < 2 ^ lN0 L) : ∀ (m y : Nat) (σ : HP) (u2 u5 u6 u7 : MV), y + m = 256 → WM σ0 σ L → LI (lN0 L) (alW L bb) a (fun v => σ 111 v) y → ∃ σ' r, rsP PG0 MX d 259 61 [vR 101, vI n, u2, vI bb, vI y, u5, u6, u7] [] σ = some (r, σ') ∧ FQ σ0 σ' ∧ WAY (lN0 L) (alW L bb) a bb r := by
  have h9 := hw.1
  have hp8 := pow8 hw.1
  intro m
  induction m with
  | zero =>
    intro y σ u2 u5 u6 u7 hm hq hl
    have ey : y = 256 := by omega
    subst ey
    have hy := hq.1.2
    have y1 := hy.1; have k101 := y101_m1 hy; have p111 := y101_24 hy; have k111 := y111_m1 hy; have l111 := y111_m2 hy
    refine ⟨σ, σ 111 (bb : Int), ?_, hq.1, ?_⟩
    · rw [sg_259_61]
      (try simp (disch := omega) only [p111, wr_id2])
      repeat (first | ((with_reducible refine step_t ?_ ?_); with_reducible exact True.intro) | ((with_reducible refine step_t ?_ ?_); omega) | ((with_reducible refine step_f ?_ ?_); omega))
      rfl
    · by_cases z : σ 111 (bb : Int) = -1
      · exact hl.no z
      · exact hl.ye (by omega) (by omega) z
  | succ m ih =>
    intro y σ u2 u5 u6 u7 hm hq hl
    have hy := hq.1.2
    have y1 := hy.1; have k101 := y101_m1 hy; have p111 := y101_24 hy; have k111 := y111_m1 hy; have l111 := y111_m2 hy
    have dv := hl.1 bb (by omega)
    have vi : -1 ≤ σ 111 (bb : Int) ∧ σ 111 (bb : Int) ≤ 257 := by
      rcases dv with q | ⟨x, x1, x2, -⟩
      · dsimp only at q; omega
      · dsimp only at x2; omega
    clear dv
    by_cases z : σ 111 (bb : Int) = -1
    · obtain ⟨σ1, k1, k2, k3⟩ := s259u (d := d) h hn hr0 hw ha hbb (y := y) (by omega) (2 ^ lN0 L) 0 σ vU vU (by omega) hq hl.ln
      obtain ⟨σ2, r, j1, j2⟩ := ih (y + 1) σ1 vU (vI ((2 ^ lN0 L : Nat) : Int)) vU vU (by omega) k2 k3
      refine ⟨σ2, r, ?_, j2⟩
      rw [sg_259_61]
      (try simp (disch := omega) only [p111, wr_id2])
      repeat (first | ((with_reducible refine step_t ?_ ?_); with_reducible exact True.intro) | ((with_reducible refine step_t ?_ ?_); omega) | ((with_reducible refine step_f ?_ ?_); omega))
      exact k1.trans j1
    · refine ⟨σ, σ 111 (bb : Int), ?_, hq.1, hl.ye (by omega) (by omega) z⟩
      rw [sg_259_61]
      (try simp (disch := omega) only [p111, wr_id2])
      repeat (first | ((with_reducible refine step_t ?_ ?_); with_reducible exact True.intro) | ((with_reducible refine step_t ?_ ?_); omega) | ((with_reducible refine step_f ?_ ?_); omega))
      rfl
theorem s259f {d : Nat} {σ0 : HP} {n : Int} {L : LB} {a : Nat} {bb : Int} (ha : a < 256) : ∀ (m i : Nat) (σ : HP) (u5 u6 u7 : MV), i + m = 256 → WM σ0 σ L → (∀ j : Nat, j < i → σ 111 j = -1) → ∃ σ', rsP PG0 MX d 259 29 [vR 101, vI n, vI a, vI bb, vI i, u5, u6, u7] [] σ = rsP PG0 MX d 259 61 [vR 101, vI n, vI a, vI bb, vI 0, vU, vU, vU] [] σ' ∧ WM σ0 σ' L ∧ σ' 111 a = 0 ∧ ∀ v : Nat, v < 256 → v ≠ a → σ' 111 v = -1 := by
  intro m
  induction m with
  | zero =>
    intro i σ u5 u6 u7 hi hq hj
    have hy := hq.1.2
    have y1 := hy.1; have k101 := y101_m1 hy; have p111 := y101_24 hy; have k111 := y111_m1 hy; have l111 := y111_m2 hy
    refine ⟨up σ 111 a 0, ?_, hq.up (by omega), up_s _ _ _ _, fun v hv hne => ?_⟩
    · rw [sg_259_29]
      (try simp (disch := omega) only [p111, wr_id2])
      repeat (first | ((with_reducible refine step_t ?_ ?_); with_reducible exact True.intro) | ((with_reducible refine step_t ?_ ?_); omega) | ((with_reducible refine step_f ?_ ?_); omega))
      rfl
    · rw [up_n2 _ _ _ _ (by omega)]; exact hj v (by omega)
  | succ m ih =>
    intro i σ u5 u6 u7 hi hq hj
    have hy := hq.1.2
    have y1 := hy.1; have k101 := y101_m1 hy; have p111 := y101_24 hy; have k111 := y111_m1 hy; have l111 := y111_m2 hy
    obtain ⟨σ', k1, k2⟩ := ih (i + 1) (up σ 111 i (-1)) vU vU vU (by omega) (hq.up (by omega)) (fun j hj2 => by
      by_cases z : j = i
      · rw [z, up_s]
      · rw [up_n2 _ _ _ _ (by omega)]; exact hj j (by omega))
    refine ⟨σ', ?_, k2⟩
    rw [sg_259_29]
    (try simp (disch := omega) only [p111, wr_id2])
    repeat (first | ((with_reducible refine step_t ?_ ?_); with_reducible exact True.intro) | ((with_reducible refine step_t ?_ ?_); omega) | ((with_reducible refine step_f ?_ ?_); omega))
    exact k1
theorem m259 (S : AS) {s x y r : Int} (hs : i32 s) (hx : i32 x) (hy0 : i32 y) (hr : WYA S s x y r) : mOp 259 [vI s, vI x, vI y] S (r, S) := by
  intro d σ h hy ht hm
  obtain ⟨d, rfl⟩ := ob1 (show 1 ≤ d by omega)
  have y1 := hy.1; have k101 := y101_m1 hy
  unfold WYA at hr
  cases e : gl S s with
  | none =>
    rw [e] at hr
    rw [show r = -2 from hr]
    refine ⟨σ, ?_, (FM.rf hy).fl, hm⟩
    rw [ce_259, sg_259_0]
    repeat (first | ((with_reducible refine step_t ?_ ?_); with_reducible exact True.intro) | ((with_reducible refine step_t ?_ ?_); omega) | ((with_reducible refine step_f ?_ ?_); omega))
    refine step_c (s221n (by omega) hy hm hs hx e) ?_
    try dsimp only
    (try simp (disch := omega) only [wr_id2])
    repeat (first | ((with_reducible refine step_t ?_ ?_); with_reducible exact True.intro) | ((with_reducible refine step_t ?_ ?_); omega) | ((with_reducible refine step_f ?_ ?_); omega))
    rfl
  | some L =>
    rw [e] at hr
    have ex := s221s (d := d) (by omega) hy hm hs hx e
    have ey := s221s (d := d) (by omega) hy hm hs hy0 e
    obtain ⟨n, rfl, hn, hr0, hw, en⟩ := hm.got e
    have hp8 := pow8 hw.1.1
    dsimp only at hr
    by_cases zx : 0 ≤ x ∧ x < (2 ^ lN0 L : Nat)
    · rw [decide_eq_true zx] at ex
      by_cases zy : 0 ≤ y ∧ y < (2 ^ lN0 L : Nat)
      · rw [decide_eq_true zy] at ey
        rw [if_pos ⟨zx, zy⟩] at hr
        obtain ⟨a, rfl⟩ : ∃ a : Nat, x = a := ⟨x.toNat, by omega⟩
        obtain ⟨b, rfl⟩ : ∃ b : Nat, y = b := ⟨y.toNat, by omega⟩
        rw [Int.toNat_natCast, Int.toNat_natCast] at hr
        obtain ⟨σ1, k1, F1, r1, w1⟩ := s203 (d := d) (by omega) hy hn hr0 hw.1
        have hy1 := F1.2
        have y1b := hy1.1; have k101b := y101_m1 hy1
        obtain ⟨σ2, k2, W2, w2, w3⟩ := s259f (d := d) (n := n) (L := L) (a := a) (bb := b) (by omega) 256 0 σ1 vU vU vU (by omega) ⟨F1, w1.2.1⟩ (fun j hj => by omega)
        obtain ⟨σ3, r', k3, F3, w4⟩ := s259n (d := d) (by omega) hn hr0 hw.1 (a := a) (bb := b) (by omega) (by omega) 256 0 σ2 (vI a) vU vU vU (by omega) W2 (LI.st w2 w3)
        rw [w4.un hr] at k3
        refine ⟨σ3, ?_, F3.fm.fl, F3.mr hm⟩
        rw [ce_259, sg_259_0]
        repeat (first | ((with_reducible refine step_t ?_ ?_); with_reducible exact True.intro) | ((with_reducible refine step_t ?_ ?_); omega) | ((with_reducible refine step_f ?_ ?_); omega))
        refine step_c (ex) ?_
        try dsimp only
        rw [wr_b2i]
        refine step_f (show ¬ (b2i true = 0) by decide) ?_
        repeat (first | ((with_reducible refine step_t ?_ ?_); with_reducible exact True.intro) | ((with_reducible refine step_t ?_ ?_); omega) | ((with_reducible refine step_f ?_ ?_); omega))
        refine step_c (ey) ?_
        try dsimp only
        rw [wr_b2i]
        refine step_t (show b2i true ≠ 0 by decide) ?_
        repeat (first | ((with_reducible refine step_t ?_ ?_); with_reducible exact True.intro) | ((with_reducible refine step_t ?_ ?_); omega) | ((with_reducible refine step_f ?_ ?_); omega))
        refine step_c (k1) ?_
        try dsimp only
        exact k2.trans k3
      · rw [decide_eq_false zy] at ey
        rw [if_neg (fun q => zy q.2)] at hr
        rw [hr]
        refine ⟨σ, ?_, (FM.rf hy).fl, hm⟩
        rw [ce_259, sg_259_0]
        repeat (first | ((with_reducible refine step_t ?_ ?_); with_reducible exact True.intro) | ((with_reducible refine step_t ?_ ?_); omega) | ((with_reducible refine step_f ?_ ?_); omega))
        refine step_c (ex) ?_
        try dsimp only
        rw [wr_b2i]
        refine step_f (show ¬ (b2i true = 0) by decide) ?_
        repeat (first | ((with_reducible refine step_t ?_ ?_); with_reducible exact True.intro) | ((with_reducible refine step_t ?_ ?_); omega) | ((with_reducible refine step_f ?_ ?_); omega))
        refine step_c (ey) ?_
        try dsimp only
        rw [wr_b2i]
        refine step_f (show ¬ (b2i false ≠ 0) by decide) ?_
        rfl
    · rw [decide_eq_false zx] at ex
      rw [if_neg (fun q => zx q.1)] at hr
      rw [hr]
      refine ⟨σ, ?_, (FM.rf hy).fl, hm⟩
      rw [ce_259, sg_259_0]
      repeat (first | ((with_reducible refine step_t ?_ ?_); with_reducible exact True.intro) | ((with_reducible refine step_t ?_ ?_); omega) | ((with_reducible refine step_f ?_ ?_); omega))
      refine step_c (ex) ?_
      try dsimp only
      rw [wr_b2i]
      refine step_t (show b2i false = 0 by decide) ?_
      rfl
