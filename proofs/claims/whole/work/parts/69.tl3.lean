/-- told: the class -/
def tolA (S : AS) (s : Int) : Int × AS := if 0 ≤ s ∧ s < 3 then (if rK (tolR S.tp) = 0 then (((tolB S.tp).1.length : Nat), setl (mkA S.sl S.hs [] (rK (tolR S.tp)) (rP (tolR S.tp)) S.ot) s.toNat (some (tolL S.tp))) else (-4, mkA S.sl S.hs [] (rK (tolR S.tp)) (rP (tolR S.tp)) S.ot)) else (-2, S)
theorem CR.tol {σ σ1 : HP} {S : AS} (hc : CR σ S) {r : RD} (hs : ∀ a j, a ≠ 79 → (a < 43 ∨ 45 < a) → σ1 a j = σ a j) (h4 : σ1 79 4 = rK r) (h5 : σ1 79 5 = rP r) : CR (up σ1 80 1 0) (mkA S.sl S.hs [] (rK r) (rP r) S.ot) := by
  have hsm : ∀ a j, a ≠ 79 → a ≠ 80 → (a < 43 ∨ 45 < a) → (up σ1 80 1 0) a j = σ a j := fun a j h1 h2 h3 => by rw [up_n1 _ _ _ _ h2]; exact hs a j h1 h3
  have h0 : σ (-1) 0 ≤ (up σ1 80 1 0) (-1) 0 := by rw [hsm _ _ (by omega) (by omega) (by omega)]; exact Int.le_refl _
  obtain ⟨n, n1, n2, n3⟩ := hc.nx
  refine ⟨rowO_same hc.s0 h0 (fun a j q1 q2 => hsm _ _ (by omega) (by omega) (by omega)), rowO_same hc.s1 h0 (fun a j q1 q2 => hsm _ _ (by omega) (by omega) (by omega)), rowO_same hc.s2 h0 (fun a j q1 q2 => hsm _ _ (by omega) (by omega) (by omega)), ⟨n, n1, ?_, fun i s o hi => ?_⟩, ?_, hc.dl, (show byR (up σ1 80 1 0) 80 81 400 [] from ⟨up_s _ _ _ _, by decide, fun i x hx => by simp at hx⟩), ?_, ?_, byR_same hc.ot (fun j => hsm _ _ (by omega) (by omega) (by omega)) (fun j => hsm _ _ (by omega) (by omega) (by omega))⟩
  · rw [hsm _ _ (by omega) (by omega) (by omega)]; exact n2
  · obtain ⟨k1, k2, k3⟩ := n3 i s o hi
    have hm : (n + 9 - i) % 10 < 10 := Nat.mod_lt _ (by omega)
    exact ⟨k1, by rw [hsm _ _ (by omega) (by omega) (by omega)]; exact k2, rowO_same k3 h0 (fun a j q1 q2 => hsm _ _ (by omega) (by omega) (by omega))⟩
  · rw [hsm _ _ (by omega) (by omega) (by omega)]; exact hc.dp
  · rw [up_n1 _ _ _ _ (by omega)]; exact h4
  · rw [up_n1 _ _ _ _ (by omega)]; exact h5
theorem okt_80 : layT.all (fun t => !(decide (t.1 = 80) && decide (t.2.1 = 1))) = true := by decide +kernel
theorem c15 (S : AS) {s : Int} (hs : i32 s) : cOp 15 [vI s] S (tolA S s) := by
  intro d σ h hy ht hc
  obtain ⟨d, rfl⟩ := ob1 (show 1 ≤ d by omega)
  have y1 := hy.1
  have a1 := y32_m1 hy
  have a3 := y32_3 hy
  have a43 := y32_1 hy
  have b79 := y79_m1 hy
  have e16 := s16 (d := d) (by omega) σ hs
  unfold tolA
  by_cases z : 0 ≤ s ∧ s < 3
  · rw [if_pos z]
    rw [decide_eq_true z] at e16
    obtain ⟨σ1, k1, R1, D1⟩ := s17 (d := d) (by omega) hy ht hc.tp
    have hy1 := R1.1.2
    have c1 := hy1.1
    have c2 := y32_m1 hy1
    have c3 := y32_3 hy1
    have c4 := y79_m1 hy1
    have c5 := y79_0 hy1
    have c6 := y80_m1 hy1
    have C1 := hc.tol R1.1.1 R1.2.1.2.2.2.1 R1.2.1.2.2.2.2
    have hy2 : Lay (up σ1 80 1 0) := hy1.upf okt_80 (by omega)
    have d1 := hy2.1
    have d2 := y32_m1 hy2
    have FC1 : FC σ (up σ1 80 1 0) := ⟨fun a j q => by rw [up_n1 _ _ _ _ (by omega)]; exact R1.1.1 a j (by omega) (by omega), hy2⟩
    by_cases z0 : rK (tolR S.tp) = 0
    · rw [if_pos z0]
      rw [decide_eq_true z0] at k1
      obtain ⟨D2, D3, D4⟩ := D1 z0
      have D2' : blr (up σ1 80 1 0) 43 (tolL S.tp) := blr_same D2 (by rw [up_n1 _ _ _ _ (by omega)]; exact Int.le_refl _) (fun a j q1 q2 => up_n1 _ _ _ _ (by omega))
      obtain ⟨σ2, j1, j2, j3, j4, j5⟩ := s32 (d := d) (by omega) hy2 C1 (s := s.toNat) (by omega) D2' (by rw [up_n1 _ _ _ _ (by omega)]; exact D4) (tolL_wf S.tp)
      rw [show ((s.toNat : Nat) : Int) = s by omega] at j1
      refine ⟨σ2, ?_, FC1.tr j2, j3⟩
      rw [ce_15, sg_15_0]
      repeat (first | ((with_reducible refine step_t ?_ ?_); with_reducible exact True.intro) | ((with_reducible refine step_t ?_ ?_); omega) | ((with_reducible refine step_f ?_ ?_); omega))
      refine step_c (e16) ?_
      try dsimp only
      rw [wr_b2i]
      refine step_t (show b2i true ≠ 0 by decide) ?_
      (try simp (disch := omega) only [a3, a43, wr_id2])
      repeat (first | ((with_reducible refine step_t ?_ ?_); with_reducible exact True.intro) | ((with_reducible refine step_t ?_ ?_); omega) | ((with_reducible refine step_f ?_ ?_); omega))
      refine step_c (k1) ?_
      try dsimp only
      (try simp (disch := omega) only [c3, c5, wr_id2])
      repeat (first | ((with_reducible refine step_t ?_ ?_); with_reducible exact True.intro) | ((with_reducible refine step_t ?_ ?_); omega) | ((with_reducible refine step_f ?_ ?_); omega))
      refine step_t (show wr (b2i true) ≠ 0 by decide) ?_
      repeat (first | ((with_reducible refine step_t ?_ ?_); with_reducible exact True.intro) | ((with_reducible refine step_t ?_ ?_); omega) | ((with_reducible refine step_f ?_ ?_); omega))
      refine step_c (j1) ?_
      try dsimp only
    · rw [if_neg z0]
      rw [decide_eq_false z0] at k1
      refine ⟨_, ?_, FC1, C1⟩
      rw [ce_15, sg_15_0]
      repeat (first | ((with_reducible refine step_t ?_ ?_); with_reducible exact True.intro) | ((with_reducible refine step_t ?_ ?_); omega) | ((with_reducible refine step_f ?_ ?_); omega))
      refine step_c (e16) ?_
      try dsimp only
      rw [wr_b2i]
      refine step_t (show b2i true ≠ 0 by decide) ?_
      (try simp (disch := omega) only [a3, a43, wr_id2])
      repeat (first | ((with_reducible refine step_t ?_ ?_); with_reducible exact True.intro) | ((with_reducible refine step_t ?_ ?_); omega) | ((with_reducible refine step_f ?_ ?_); omega))
      refine step_c (k1) ?_
      try dsimp only
      (try simp (disch := omega) only [c3, c5, wr_id2])
      repeat (first | ((with_reducible refine step_t ?_ ?_); with_reducible exact True.intro) | ((with_reducible refine step_t ?_ ?_); omega) | ((with_reducible refine step_f ?_ ?_); omega))
      refine step_f (show ¬ (wr (b2i false) ≠ 0) by decide) ?_
      rfl
  · rw [if_neg z]
    rw [decide_eq_false z] at e16
    refine ⟨σ, ?_, FC.rf hy, hc⟩
    rw [ce_15, sg_15_0]
    repeat (first | ((with_reducible refine step_t ?_ ?_); with_reducible exact True.intro) | ((with_reducible refine step_t ?_ ?_); omega) | ((with_reducible refine step_f ?_ ?_); omega))
    refine step_c (e16) ?_
    try dsimp only
    rw [wr_b2i]
    refine step_f (show ¬ (b2i false ≠ 0) by decide) ?_
    rfl
/-! the reference reads -/
def FT (σ0 σ : HP) : Prop := (∀ a j, (a ≠ 101 ∨ j < 8 ∨ 14 < j) → σ a j = σ0 a j) ∧ Lay σ
def RM (σ0 σ : HP) (T : List Nat) (r : RD) : Prop := FT σ0 σ ∧ inR σ 101 106 400 7 T ∧ (σ 101 10 = rT r ∧ σ 101 11 = rF r ∧ σ 101 12 = rD r ∧ σ 101 14 = b2i (decide (rK r ≠ 0)) ∧ σ 101 8 = rK r ∧ σ 101 9 = rP r ∧ (rD r = 2 → σ 101 13 = rdV T r)) ∧ rdOk T r
theorem FT.upf {σ0 σ : HP} (h : FT σ0 σ) {j v : Int} (h1 : 8 ≤ j ∧ j ≤ 14) (ha : okf j) : FT σ0 (up σ 101 j v) := ⟨fun a k h3 => by
    by_cases z : a = 101
    · rw [up_n2 _ _ _ _ (by omega)]; exact h.1 a k h3
    · rw [up_n1 _ _ _ _ z]; exact h.1 a k h3, h.2.upf ha (by omega)⟩
theorem inT_up {σ : HP} {T : List Nat} (h : inR σ 101 106 400 7 T) {j v : Int} (h1 : j ≠ 7) : inR (up σ 101 j v) 101 106 400 7 T := inR_same h (up_n2 _ _ _ _ (fun q => h1 q.symm)) (fun _ => up_n1 _ _ _ _ (by omega))
/-- isAt -/
theorem s189 {d : Nat} (h : 2 ≤ d) {σ : HP} (hy : Lay σ) {T : List Nat} (hT : inR σ 101 106 400 7 T) {p : Nat} (hp : σ 101 10 = p) (hp2 : p ≤ T.length) {lo hi : Nat} (h1 : lo < 256) (h2 : hi < 256) : clR PG0 MX d 189 [vR 101, vI lo, vI hi] σ = some (b2i (decide (p < T.length ∧ lo ≤ tv T p ∧ tv T p ≤ hi)), σ) := by
  obtain ⟨d, rfl⟩ := ob1 (show 1 ≤ d by omega)
  have y1 := hy.1; have k101 := y101_m1 hy; have p106 := y101_6 hy; have k106 := y106_m1 hy; have l106 := y106_m2 hy
  obtain ⟨l1, l2, l3⟩ := id hT
  rw [ce_189, sg_189_0]
  (try simp (disch := omega) only [l1, hp, wr_id2])
  repeat (first | ((with_reducible refine step_t ?_ ?_); with_reducible exact True.intro) | ((with_reducible refine step_t ?_ ?_); omega) | ((with_reducible refine step_f ?_ ?_); omega))
  by_cases z : p < T.length
  · obtain ⟨v1, v2⟩ := l3 p _ (tv_at z)
    refine step_f (by omega) ?_
    (try simp (disch := omega) only [p106, v2, wr_id2])
    repeat (first | ((with_reducible refine step_t ?_ ?_); with_reducible exact True.intro) | ((with_reducible refine step_t ?_ ?_); omega) | ((with_reducible refine step_f ?_ ?_); omega))
    refine step_c (s179 (by omega) σ (i32_n (by omega)) (i32_n (by omega)) (i32_n (by omega))) ?_
    try dsimp only
    rw [wr_b2i]
    by_cases z2 : lo ≤ tv T p ∧ tv T p ≤ hi
    · rw [decide_eq_true (by omega), decide_eq_true ⟨z, z2⟩]
      refine step_f (show ¬ (b2i true = 0) by decide) ?_
      rfl
    · rw [decide_eq_false (by omega), decide_eq_false (fun q => z2 q.2)]
      refine step_t (show b2i false = 0 by decide) ?_
      rfl
  · rw [decide_eq_false (fun q => z q.1)]
    refine step_t (by omega) ?_
    rfl
theorem kd_at1 {v : Nat} : kdN v = 1 ↔ 97 ≤ v ∧ v ≤ 122 := by
  unfold kdN
  by_cases z : 97 ≤ v ∧ v ≤ 122
  · rw [if_pos z]; exact ⟨fun _ => z, fun _ => rfl⟩
  · rw [if_neg z]
    by_cases z2 : 48 ≤ v ∧ v ≤ 57
    · rw [if_pos z2]; omega
    · rw [if_neg z2]; omega
theorem kd_at2 {v : Nat} : kdN v = 2 ↔ 48 ≤ v ∧ v ≤ 57 := by
  unfold kdN
  by_cases z : 97 ≤ v ∧ v ≤ 122
  · rw [if_pos z]; omega
  · rw [if_neg z]
    by_cases z2 : 48 ≤ v ∧ v ≤ 57
    · rw [if_pos z2]; exact ⟨fun _ => z2, fun _ => rfl⟩
    · rw [if_neg z2]; omega
/-- next: letters, digits -/
theorem s188w {d : Nat} (h : 2 ≤ d) {σ0 : HP} {T : List Nat} : ∀ (m p : Nat) (σ : HP), p + m = T.length → FT σ0 σ → inR σ 101 106 400 7 T → σ 101 10 = p → ∃ σ', rsP PG0 MX d 188 83 [vR 101] [] σ = some (0, σ') ∧ FT σ0 σ' ∧ inR σ' 101 106 400 7 T ∧ σ' 101 10 = (ext T 1 m p : Nat) ∧ ∀ j, j ≠ 10 → σ' 101 j = σ 101 j := by
  intro m
  induction m with
  | zero =>
    intro p σ hp hF hT h10
    have hy := hF.2
    have y1 := hy.1; have k101 := y101_m1 hy
    have e := s189 (d := d) h hy hT h10 (by omega) (lo := 97) (hi := 122) (by omega) (by omega)
    rw [decide_eq_false (by omega)] at e
    have e : clR PG0 MX d 189 [vR 101, vI 97, vI 122] σ = some (b2i false, σ) := e
    refine ⟨σ, ?_, hF, hT, h10, fun _ _ => rfl⟩
    rw [sg_188_83]
    repeat (first | ((with_reducible refine step_t ?_ ?_); with_reducible exact True.intro) | ((with_reducible refine step_t ?_ ?_); omega) | ((with_reducible refine step_f ?_ ?_); omega))
    refine step_c (e) ?_
    try dsimp only
    refine step_t (show wr (b2i false) = 0 by decide) ?_
    rfl
  | succ m ih =>
    intro p σ hp hF hT h10
    have hy := hF.2
    have y1 := hy.1; have k101 := y101_m1 hy
    have l2 := hT.2.1
    have e := s189 (d := d) h hy hT h10 (by omega) (lo := 97) (hi := 122) (by omega) (by omega)
    unfold ext
    by_cases z : kdN (tv T p) = 1
    · have z' := kd_at1.mp z
      rw [if_pos z]
      rw [decide_eq_true (by omega)] at e
      have e : clR PG0 MX d 189 [vR 101, vI 97, vI 122] σ = some (b2i true, σ) := e
      obtain ⟨σ', k1, k2, k3, k4, k5⟩ := ih (p + 1) (up σ 101 10 ((p : Int) + 1)) (by omega) (hF.upf (by omega) okf_10) (inT_up hT (by omega)) (by rw [up_s]; omega)
      refine ⟨σ', ?_, k2, k3, k4, fun j hj => by rw [k5 j hj, up_n2 _ _ _ _ hj]⟩
      rw [sg_188_83]
      repeat (first | ((with_reducible refine step_t ?_ ?_); with_reducible exact True.intro) | ((with_reducible refine step_t ?_ ?_); omega) | ((with_reducible refine step_f ?_ ?_); omega))
      refine step_c (e) ?_
      try dsimp only
      refine step_f (show ¬ wr (b2i true) = 0 by decide) ?_
      (try simp (disch := omega) only [h10, wr_id2])
      repeat (first | ((with_reducible refine step_t ?_ ?_); with_reducible exact True.intro) | ((with_reducible refine step_t ?_ ?_); omega) | ((with_reducible refine step_f ?_ ?_); omega))
      exact k1
    · have z' := mt kd_at1.mpr z
      rw [if_neg z]
      rw [decide_eq_false (fun q => z' q.2)] at e
      have e : clR PG0 MX d 189 [vR 101, vI 97, vI 122] σ = some (b2i false, σ) := e
      refine ⟨σ, ?_, hF, hT, h10, fun _ _ => rfl⟩
      rw [sg_188_83]
      repeat (first | ((with_reducible refine step_t ?_ ?_); with_reducible exact True.intro) | ((with_reducible refine step_t ?_ ?_); omega) | ((with_reducible refine step_f ?_ ?_); omega))
      refine step_c (e) ?_
      try dsimp only
      refine step_t (show wr (b2i false) = 0 by decide) ?_
      rfl
theorem s188n {d : Nat} (h : 6 ≤ d) {σ0 : HP} {T : List Nat} : ∀ (m p a : Nat) (σ : HP), p + m = T.length → a ≤ 1000 → FT σ0 σ → inR σ 101 106 400 7 T → σ 101 10 = p → σ 101 13 = a → ∃ σ', rsP PG0 MX d 188 123 [vR 101] [] σ = some (0, σ') ∧ FT σ0 σ' ∧ inR σ' 101 106 400 7 T ∧ σ' 101 10 = (ext T 2 m p : Nat) ∧ σ' 101 13 = (vlR T (ext T 2 m p - p) p a : Nat) ∧ ∀ j, j ≠ 10 → j ≠ 13 → σ' 101 j = σ 101 j := by
  intro m
  induction m with
  | zero =>
    intro p a σ hp ha hF hT h10 h13
    have hy := hF.2
    have y1 := hy.1; have k101 := y101_m1 hy
    have e := s189 (d := d) (by omega) hy hT h10 (by omega) (lo := 48) (hi := 57) (by omega) (by omega)
    rw [decide_eq_false (by omega)] at e
    have e : clR PG0 MX d 189 [vR 101, vI 48, vI 57] σ = some (b2i false, σ) := e
    refine ⟨σ, ?_, hF, hT, h10, ?_, fun _ _ _ => rfl⟩
    · rw [sg_188_123]
      repeat (first | ((with_reducible refine step_t ?_ ?_); with_reducible exact True.intro) | ((with_reducible refine step_t ?_ ?_); omega) | ((with_reducible refine step_f ?_ ?_); omega))
      refine step_c (e) ?_
      try dsimp only
      refine step_t (show wr (b2i false) = 0 by decide) ?_
      rfl
    · show _ = ((vlR T (p - p) p a : Nat) : Int)
      rw [Nat.sub_self]
      exact h13
  | succ m ih =>
    intro p a σ hp ha hF hT h10 h13
    have hy := hF.2
    have y1 := hy.1; have k101 := y101_m1 hy; have p106 := y101_6 hy; have k106 := y106_m1 hy; have l106 := y106_m2 hy
    have l2 := hT.2.1
    have e := s189 (d := d) (by omega) hy hT h10 (by omega) (lo := 48) (hi := 57) (by omega) (by omega)
    unfold ext
    by_cases z : kdN (tv T p) = 2
    · have z' := kd_at2.mp z
      rw [if_pos z]
      rw [decide_eq_true (by omega)] at e
      have e : clR PG0 MX d 189 [vR 101, vI 48, vI 57] σ = some (b2i true, σ) := e
      have v2 := (hT.2.2 p _ (tv_at (show p < T.length by omega))).2
      have hF1 : FT σ0 (up σ 101 13 (min 1000 (10 * a + (tv T p - 48)) : Nat)) := hF.upf (by omega) okf_13
      have hy1 := hF1.2
      have y1b := hy1.1; have k101b := y101_m1 hy1
      obtain ⟨σ', k1, k2, k3, k4, k5, k6⟩ := ih (p + 1) (min 1000 (10 * a + (tv T p - 48))) (up (up σ 101 13 (min 1000 (10 * a + (tv T p - 48)) : Nat)) 101 10 ((p : Int) + 1)) (by omega) (by omega) (hF1.upf (by omega) okf_10) (inT_up (inT_up hT (by omega)) (by omega)) (by rw [up_s]; omega) (by rw [up_n2 _ _ _ _ (by omega), up_s])
      obtain ⟨x1, x2, x3⟩ := ext_b T 2 m (p + 1)
      refine ⟨σ', ?_, k2, k3, k4, ?_, fun j h1 h2 => by rw [k6 j h1 h2, up_n2 _ _ _ _ h1, up_n2 _ _ _ _ h2]⟩
      · have em : (if (10 * (a : Int) + ((tv T p : Nat) : Int) - 48) < 1000 then (10 * (a : Int) + ((tv T p : Nat) : Int) - 48) else (1000 : Int)) = ((min 1000 (10 * a + (tv T p - 48)) : Nat) : Int) := by
          by_cases w : 10 * a + (tv T p - 48) < 1000
          · rw [if_pos (by omega), Nat.min_eq_right (by omega)]; omega
          · rw [if_neg (by omega), Nat.min_eq_left (by omega)]; rfl
        have g10 : (up σ 101 13 (min 1000 (10 * a + (tv T p - 48)) : Nat)) 101 10 = p := by rw [up_n2 _ _ _ _ (by omega)]; exact h10
        rw [sg_188_123]
        repeat (first | ((with_reducible refine step_t ?_ ?_); with_reducible exact True.intro) | ((with_reducible refine step_t ?_ ?_); omega) | ((with_reducible refine step_f ?_ ?_); omega))
        refine step_c (e) ?_
        try dsimp only
        refine step_f (show ¬ wr (b2i true) = 0 by decide) ?_
        (try simp (disch := omega) only [h13, p106, h10, v2, wr_id2])
        repeat (first | ((with_reducible refine step_t ?_ ?_); with_reducible exact True.intro) | ((with_reducible refine step_t ?_ ?_); omega) | ((with_reducible refine step_f ?_ ?_); omega))
        refine step_c (p_min (by omega) σ _ _) ?_
        try dsimp only
        (try simp (disch := omega) only [em, wr_id2])
        repeat (first | ((with_reducible refine step_t ?_ ?_); with_reducible exact True.intro) | ((with_reducible refine step_t ?_ ?_); omega) | ((with_reducible refine step_f ?_ ?_); omega))
        rw [g10]
        exact k1
      · rw [k5, show ext T 2 m (p + 1) - p = (ext T 2 m (p + 1) - (p + 1)) + 1 by omega]
        rfl
    · have z' := mt kd_at2.mpr z
      rw [if_neg z]
      rw [decide_eq_false (fun q => z' q.2)] at e
      have e : clR PG0 MX d 189 [vR 101, vI 48, vI 57] σ = some (b2i false, σ) := e
      refine ⟨σ, ?_, hF, hT, h10, ?_, fun _ _ _ => rfl⟩
      · rw [sg_188_123]
        repeat (first | ((with_reducible refine step_t ?_ ?_); with_reducible exact True.intro) | ((with_reducible refine step_t ?_ ?_); omega) | ((with_reducible refine step_f ?_ ?_); omega))
        refine step_c (e) ?_
        try dsimp only
        refine step_t (show wr (b2i false) = 0 by decide) ?_
        rfl
      · rw [Nat.sub_self]
        exact h13
theorem s188x {d : Nat} (h : 6 ≤ d) {σ0 : HP} {T : List Nat} {r : RD} (hok : rdOk T r) : ∀ (m p : Nat) (σ : HP), p + m = T.length → skp T m p = tkF T (rT r) → FT σ0 σ → inR σ 101 106 400 7 T → σ 101 10 = p → σ 101 14 = b2i (decide (rK r ≠ 0)) → σ 101 8 = rK r → σ 101 9 = rP r → ∃ σ', rsP PG0 MX d 188 0 [vR 101] [] σ = some (0, σ') ∧ RM σ0 σ' T (rdAdv T r) := by
  have aok := adv_ok hok
  intro m
  induction m with
  | zero =>
    intro p σ hp hsk hF hT h10 h14 h8 h9
    have hy := hF.2
    have y1 := hy.1; have k101 := y101_m1 hy
    obtain ⟨l1, l2, l3⟩ := id hT
    have e1 := s189 (d := d) (by omega) hy hT h10 (by omega) (lo := 32) (hi := 32) (by omega) (by omega)
    have e2 := s189 (d := d) (by omega) hy hT h10 (by omega) (lo := 10) (hi := 10) (by omega) (by omega)
    rw [decide_eq_false (by omega)] at e1 e2
    have e1 : clR PG0 MX d 189 [vR 101, vI 32, vI 32] σ = some (b2i false, σ) := e1
    have e2 : clR PG0 MX d 189 [vR 101, vI 10, vI 10] σ = some (b2i false, σ) := e2
    have hsk : p = tkF T (rT r) := hsk
    have ek : tkK T (rT r) = 0 := by unfold tkK; rw [if_neg (by omega)]
    have ee : tkE T (rT r) = tkF T (rT r) := by unfold tkE; rw [if_neg (by omega)]
    have F1 : FT σ0 (up σ 101 11 p) := hF.upf (by omega) okf_11
    have F2 : FT σ0 (up (up σ 101 11 p) 101 13 0) := F1.upf (by omega) okf_13
    have F3 : FT σ0 (up (up (up σ 101 11 p) 101 13 0) 101 12 0) := F2.upf (by omega) okf_12
    have hy1 := F1.2
    have y1b := hy1.1; have k101b := y101_m1 hy1
    have hy2 := F2.2
    have y1c := hy2.1; have k101c := y101_m1 hy2
    have g10 : (up (up σ 101 11 p) 101 13 0) 101 10 = p := by rw [up_n2 _ _ _ _ (by omega), up_n2 _ _ _ _ (by omega)]; exact h10
    have g7 : (up (up σ 101 11 p) 101 13 0) 101 7 = (T.length : Nat) := by rw [up_n2 _ _ _ _ (by omega), up_n2 _ _ _ _ (by omega)]; exact l1
    refine ⟨_, ?_, F3, inT_up (inT_up (inT_up hT (by omega)) (by omega)) (by omega), ⟨?_, ?_, ?_, ?_, ?_, ?_, fun q => ?_⟩, aok⟩
    · rw [sg_188_0]
      repeat (first | ((with_reducible refine step_t ?_ ?_); with_reducible exact True.intro) | ((with_reducible refine step_t ?_ ?_); omega) | ((with_reducible refine step_f ?_ ?_); omega))
      refine step_c (e1) ?_
      try dsimp only
      refine step_f (show ¬ (wr (b2i false) ≠ 0) by decide) ?_
      repeat (first | ((with_reducible refine step_t ?_ ?_); with_reducible exact True.intro) | ((with_reducible refine step_t ?_ ?_); omega) | ((with_reducible refine step_f ?_ ?_); omega))
      refine step_c (e2) ?_
      try dsimp only
      refine step_t (show wr (b2i false) = 0 by decide) ?_
      (try simp (disch := omega) only [h10, g10, g7, wr_id2])
      repeat (first | ((with_reducible refine step_t ?_ ?_); with_reducible exact True.intro) | ((with_reducible refine step_t ?_ ?_); omega) | ((with_reducible refine step_f ?_ ?_); omega))
      rfl
    · show _ = ((tkE T (rT r) : Nat) : Int)
      rw [up_n2 _ _ _ _ (by omega), g10, ee, hsk]
    · show _ = ((tkF T (rT r) : Nat) : Int)
      rw [up_n2 _ _ _ _ (by omega), up_n2 _ _ _ _ (by omega), up_s, hsk]
    · show _ = ((tkK T (rT r) : Nat) : Int)
      rw [up_s, ek]; rfl
    · rw [up_n2 _ _ _ _ (by omega), up_n2 _ _ _ _ (by omega), up_n2 _ _ _ _ (by omega)]; exact h14
    · rw [up_n2 _ _ _ _ (by omega), up_n2 _ _ _ _ (by omega), up_n2 _ _ _ _ (by omega)]; exact h8
    · rw [up_n2 _ _ _ _ (by omega), up_n2 _ _ _ _ (by omega), up_n2 _ _ _ _ (by omega)]; exact h9
    · have q : tkK T (rT r) = 2 := q
      omega
  | succ m ih =>
    intro p σ hp hsk hF hT h10 h14 h8 h9
    have hy := hF.2
    have y1 := hy.1; have k101 := y101_m1 hy
    obtain ⟨l1, l2, l3⟩ := id hT
    have e1 := s189 (d := d) (by omega) hy hT h10 (by omega) (lo := 32) (hi := 32) (by omega) (by omega)
    have e2 := s189 (d := d) (by omega) hy hT h10 (by omega) (lo := 10) (hi := 10) (by omega) (by omega)
    have e1 : clR PG0 MX d 189 [vR 101, vI 32, vI 32] σ = some (b2i (decide (p < T.length ∧ 32 ≤ tv T p ∧ tv T p ≤ 32)), σ) := e1
    have e2 : clR PG0 MX d 189 [vR 101, vI 10, vI 10] σ = some (b2i (decide (p < T.length ∧ 10 ≤ tv T p ∧ tv T p ≤ 10)), σ) := e2
    unfold skp at hsk
    have hup : FT σ0 (up σ 101 10 ((p : Int) + 1)) := hF.upf (by omega) okf_10
    by_cases zb : blkB (tv T p) = true
    · rw [if_pos zb] at hsk
      obtain ⟨σ', k1, k2⟩ := ih (p + 1) _ (by omega) hsk hup (inT_up hT (by omega)) (by rw [up_s]; omega) (by rw [up_n2 _ _ _ _ (by omega)]; exact h14) (by rw [up_n2 _ _ _ _ (by omega)]; exact h8) (by rw [up_n2 _ _ _ _ (by omega)]; exact h9)
      refine ⟨σ', ?_, k2⟩
      have k22 : rsP PG0 MX d 188 22 [vR 101] [] σ = some (0, σ') := by
        rw [sg_188_22]
        (try simp (disch := omega) only [h10, wr_id2])
        repeat (first | ((with_reducible refine step_t ?_ ?_); with_reducible exact True.intro) | ((with_reducible refine step_t ?_ ?_); omega) | ((with_reducible refine step_f ?_ ?_); omega))
        exact k1
      unfold blkB at zb
      rw [Bool.or_eq_true, decide_eq_true_iff, decide_eq_true_iff] at zb
      rw [sg_188_0]
      repeat (first | ((with_reducible refine step_t ?_ ?_); with_reducible exact True.intro) | ((with_reducible refine step_t ?_ ?_); omega) | ((with_reducible refine step_f ?_ ?_); omega))
      refine step_c (e1) ?_
      try dsimp only
      rw [wr_b2i]
      by_cases z32 : tv T p = 32
      · rw [decide_eq_true (by omega)]
        refine step_t (show b2i true ≠ 0 by decide) ?_
        exact k22
      · rw [decide_eq_false (by omega)]
        refine step_f (show ¬ (b2i false ≠ 0) by decide) ?_
        repeat (first | ((with_reducible refine step_t ?_ ?_); with_reducible exact True.intro) | ((with_reducible refine step_t ?_ ?_); omega) | ((with_reducible refine step_f ?_ ?_); omega))
        refine step_c (e2) ?_
        try dsimp only
        rw [wr_b2i, decide_eq_true (by omega)]
        refine step_f (show ¬ (b2i true = 0) by decide) ?_
        exact k22
    · rw [if_neg zb] at hsk
      unfold blkB at zb
      rw [Bool.or_eq_true, decide_eq_true_iff, decide_eq_true_iff] at zb
      rw [decide_eq_false (by omega)] at e1 e2
      have ek : tkK T (rT r) = kdN (tv T p) := by unfold tkK; rw [← hsk, if_pos (by omega)]
      have F1 : FT σ0 (up σ 101 11 p) := hF.upf (by omega) okf_11
      have F2 : FT σ0 (up (up σ 101 11 p) 101 13 0) := F1.upf (by omega) okf_13
      have hy1 := F1.2
      have y1b := hy1.1; have k101b := y101_m1 hy1
      have hy2 := F2.2
      have y1c := hy2.1; have k101c := y101_m1 hy2
      have hT2 : inR (up (up σ 101 11 p) 101 13 0) 101 106 400 7 T := inT_up (inT_up hT (by omega)) (by omega)
      have g10 : (up (up σ 101 11 p) 101 13 0) 101 10 = p := by rw [up_n2 _ _ _ _ (by omega), up_n2 _ _ _ _ (by omega)]; exact h10
      have g7 : (up (up σ 101 11 p) 101 13 0) 101 7 = (T.length : Nat) := by rw [up_n2 _ _ _ _ (by omega), up_n2 _ _ _ _ (by omega)]; exact l1
      have g11 : (up (up σ 101 11 p) 101 13 0) 101 11 = p := by rw [up_n2 _ _ _ _ (by omega), up_s]
      have g13 : (up (up σ 101 11 p) 101 13 0) 101 13 = 0 := up_s _ _ _ _
      have g14 : (up (up σ 101 11 p) 101 13 0) 101 14 = b2i (decide (rK r ≠ 0)) := by rw [up_n2 _ _ _ _ (by omega), up_n2 _ _ _ _ (by omega)]; exact h14
      have g8 : (up (up σ 101 11 p) 101 13 0) 101 8 = rK r := by rw [up_n2 _ _ _ _ (by omega), up_n2 _ _ _ _ (by omega)]; exact h8
      have g9 : (up (up σ 101 11 p) 101 13 0) 101 9 = rP r := by rw [up_n2 _ _ _ _ (by omega), up_n2 _ _ _ _ (by omega)]; exact h9
      generalize hτ : up (up σ 101 11 p) 101 13 0 = τ at *
      have e3 := s189 (d := d) (by omega) hy2 hT2 g10 (by omega) (lo := 97) (hi := 122) (by omega) (by omega)
      have e4 := s189 (d := d) (by omega) hy2 hT2 g10 (by omega) (lo := 48) (hi := 57) (by omega) (by omega)
      have e3 : clR PG0 MX d 189 [vR 101, vI 97, vI 122] τ = some (b2i (decide (p < T.length ∧ 97 ≤ tv T p ∧ tv T p ≤ 122)), τ) := e3
      have e4 : clR PG0 MX d 189 [vR 101, vI 48, vI 57] τ = some (b2i (decide (p < T.length ∧ 48 ≤ tv T p ∧ tv T p ≤ 57)), τ) := e4
      have start : ∀ X, cnd (wr (b2i (decide (p < T.length ∧ 97 ≤ tv T p ∧ tv T p ≤ 122))) = 0) (bnd (clR PG0 MX d 189 [vR 101, vI 48, vI 57] τ) (fun q => cnd (wr q.1 = 0) (rsP PG0 MX d 188 177 [vR 101] [] q.2) (rsP PG0 MX d 188 118 [vR 101] [] q.2))) (rsP PG0 MX d 188 83 [vR 101] [] (up τ 101 12 1)) = X → rsP PG0 MX d 188 0 [vR 101] [] σ = X := by
        intro X hX
        rw [sg_188_0]
        repeat (first | ((with_reducible refine step_t ?_ ?_); with_reducible exact True.intro) | ((with_reducible refine step_t ?_ ?_); omega) | ((with_reducible refine step_f ?_ ?_); omega))
        refine step_c (e1) ?_
        try dsimp only
        refine step_f (show ¬ (wr (b2i false) ≠ 0) by decide) ?_
        repeat (first | ((with_reducible refine step_t ?_ ?_); with_reducible exact True.intro) | ((with_reducible refine step_t ?_ ?_); omega) | ((with_reducible refine step_f ?_ ?_); omega))
        refine step_c (e2) ?_
        try dsimp only
        refine step_t (show wr (b2i false) = 0 by decide) ?_
        (try simp (disch := omega) only [h10, hτ, g10, g7, wr_id2])
        repeat (first | ((with_reducible refine step_t ?_ ?_); with_reducible exact True.intro) | ((with_reducible refine step_t ?_ ?_); omega) | ((with_reducible refine step_f ?_ ?_); omega))
        refine step_c (e3) ?_
        try dsimp only
        by_cases w : wr (b2i (decide (p < T.length ∧ 97 ≤ tv T p ∧ tv T p ≤ 122))) = 0
        · rw [cnd_t w] at hX
          refine step_t w ?_
          repeat (first | ((with_reducible refine step_t ?_ ?_); with_reducible exact True.intro) | ((with_reducible refine step_t ?_ ?_); omega) | ((with_reducible refine step_f ?_ ?_); omega))
          exact hX
        · rw [cnd_f w] at hX
          refine step_f w ?_
          repeat (first | ((with_reducible refine step_t ?_ ?_); with_reducible exact True.intro) | ((with_reducible refine step_t ?_ ?_); omega) | ((with_reducible refine step_f ?_ ?_); omega))
          exact hX
      have k12 := kd_12 (v := tv T p)
      by_cases z1 : kdN (tv T p) = 1
      · have z1' := kd_at1.mp z1
        have ee : tkE T (rT r) = ext T 1 m (p + 1) := by
          unfold tkE
          rw [← hsk, if_pos (by omega), if_neg (by omega), ek, z1, show T.length - (p + 1) = m by omega]
        have F3 : FT σ0 (up τ 101 12 1) := F2.upf (by omega) okf_12
        obtain ⟨σ', k1, k2, k3, k4, k5⟩ := s188w (d := d) (by omega) (m + 1) p _ hp F3 (inT_up hT2 (by omega)) (by rw [up_n2 _ _ _ _ (by omega)]; exact g10)
        have ex : ext T 1 (m + 1) p = ext T 1 m (p + 1) := by
          show (if kdN (tv T p) = 1 then ext T 1 m (p + 1) else p) = _
          rw [if_pos z1]
        refine ⟨σ', start _ ?_, k2, k3, ⟨?_, ?_, ?_, ?_, ?_, ?_, fun q => ?_⟩, aok⟩
        · rw [decide_eq_true (by omega)]
          refine step_f (show ¬ wr (b2i true) = 0 by decide) ?_
          exact k1
        · show _ = ((tkE T (rT r) : Nat) : Int)
          rw [k4, ex, ee]
        · show _ = ((tkF T (rT r) : Nat) : Int)
          rw [k5 _ (by omega), up_n2 _ _ _ _ (by omega), g11, hsk]
        · show _ = ((tkK T (rT r) : Nat) : Int)
          rw [k5 _ (by omega), up_s, ek, z1]; rfl
        · rw [k5 _ (by omega), up_n2 _ _ _ _ (by omega)]; exact g14
        · rw [k5 _ (by omega), up_n2 _ _ _ _ (by omega)]; exact g8
        · rw [k5 _ (by omega), up_n2 _ _ _ _ (by omega)]; exact g9
        · have q : tkK T (rT r) = 2 := q
          omega
      · have z1' := mt kd_at1.mpr z1
        rw [decide_eq_false (fun q => z1' q.2)] at start
        by_cases z2 : kdN (tv T p) = 2
        · have z2' := kd_at2.mp z2
          rw [decide_eq_true (by omega)] at e4
          have ee : tkE T (rT r) = ext T 2 m (p + 1) := by
            unfold tkE
            rw [← hsk, if_pos (by omega), if_neg (by omega), ek, z2, show T.length - (p + 1) = m by omega]
          have F3 : FT σ0 (up τ 101 12 2) := F2.upf (by omega) okf_12
          have hy3 := F3.2
          have y1e := hy3.1; have k101e := y101_m1 hy3
          obtain ⟨σ', k1, k2, k3, k4, k5, k6⟩ := s188n (d := d) h (m + 1) p 0 _ hp (by omega) F3 (inT_up hT2 (by omega)) (by rw [up_n2 _ _ _ _ (by omega)]; exact g10) (by rw [up_n2 _ _ _ _ (by omega)]; exact g13)
          have ex : ext T 2 (m + 1) p = ext T 2 m (p + 1) := by
            show (if kdN (tv T p) = 2 then ext T 2 m (p + 1) else p) = _
            rw [if_pos z2]
          refine ⟨σ', start _ ?_, k2, k3, ⟨?_, ?_, ?_, ?_, ?_, ?_, fun q => ?_⟩, aok⟩
          · refine step_t (show wr (b2i false) = 0 by decide) ?_
            refine step_c e4 ?_
            try dsimp only
            refine step_f (show ¬ wr (b2i true) = 0 by decide) ?_
            rw [sg_188_118]
            repeat (first | ((with_reducible refine step_t ?_ ?_); with_reducible exact True.intro) | ((with_reducible refine step_t ?_ ?_); omega) | ((with_reducible refine step_f ?_ ?_); omega))
            exact k1
          · show _ = ((tkE T (rT r) : Nat) : Int)
            rw [k4, ex, ee]
          · show _ = ((tkF T (rT r) : Nat) : Int)
            rw [k6 _ (by omega) (by omega), up_n2 _ _ _ _ (by omega), g11, hsk]
          · show _ = ((tkK T (rT r) : Nat) : Int)
            rw [k6 _ (by omega) (by omega), up_s, ek, z2]; rfl
          · rw [k6 _ (by omega) (by omega), up_n2 _ _ _ _ (by omega)]; exact g14
          · rw [k6 _ (by omega) (by omega), up_n2 _ _ _ _ (by omega)]; exact g8
          · rw [k6 _ (by omega) (by omega), up_n2 _ _ _ _ (by omega)]; exact g9
          · show _ = ((vlR T (tkE T (rT r) - tkF T (rT r)) (tkF T (rT r)) 0 : Nat) : Int)
            rw [k5, ex, ee, hsk]
        · have z2' := mt kd_at2.mpr z2
          rw [decide_eq_false (fun q => z2' q.2)] at e4
          have z3 : kdN (tv T p) = 3 := by omega
          have ee : tkE T (rT r) = p + 1 := by
            unfold tkE
            rw [← hsk, if_pos (by omega), if_pos (by omega)]
          have F3 : FT σ0 (up τ 101 12 3) := F2.upf (by omega) okf_12
          have F4 : FT σ0 (up (up τ 101 12 3) 101 10 ((p : Int) + 1)) := F3.upf (by omega) okf_10
          have hy3 := F3.2
          have y1e := hy3.1; have k101e := y101_m1 hy3
          have i10 : (up τ 101 12 3) 101 10 = p := by rw [up_n2 _ _ _ _ (by omega)]; exact g10
          refine ⟨_, start _ ?_, F4, inT_up (inT_up hT2 (by omega)) (by omega), ⟨?_, ?_, ?_, ?_, ?_, ?_, fun q => ?_⟩, aok⟩
          · refine step_t (show wr (b2i false) = 0 by decide) ?_
            refine step_c e4 ?_
            try dsimp only
            refine step_t (show wr (b2i false) = 0 by decide) ?_
            rw [sg_188_177]
            (try simp (disch := omega) only [i10, wr_id2])
            repeat (first | ((with_reducible refine step_t ?_ ?_); with_reducible exact True.intro) | ((with_reducible refine step_t ?_ ?_); omega) | ((with_reducible refine step_f ?_ ?_); omega))
            rfl
          · show _ = ((tkE T (rT r) : Nat) : Int)
            rw [up_s, ee]; rfl
          · show _ = ((tkF T (rT r) : Nat) : Int)
            rw [up_n2 _ _ _ _ (by omega), up_n2 _ _ _ _ (by omega), g11, hsk]
          · show _ = ((tkK T (rT r) : Nat) : Int)
            rw [up_n2 _ _ _ _ (by omega), up_s, ek, z3]; rfl
          · rw [up_n2 _ _ _ _ (by omega), up_n2 _ _ _ _ (by omega)]; exact g14
          · rw [up_n2 _ _ _ _ (by omega), up_n2 _ _ _ _ (by omega)]; exact g8
          · rw [up_n2 _ _ _ _ (by omega), up_n2 _ _ _ _ (by omega)]; exact g9
          · have q : tkK T (rT r) = 2 := q
            omega
/-- next -/
theorem s188y {d : Nat} (h : 7 ≤ d) {σ0 σ : HP} {T : List Nat} {r : RD} (hF : FT σ0 σ) (hT : inR σ 101 106 400 7 T) (h10 : σ 101 10 = rT r) (h14 : σ 101 14 = b2i (decide (rK r ≠ 0))) (h8 : σ 101 8 = rK r) (h9 : σ 101 9 = rP r) (hok : rdOk T r) : ∃ σ', clR PG0 MX d 188 [vR 101] σ = some (0, σ') ∧ RM σ0 σ' T (rdAdv T r) := by
  obtain ⟨d, rfl⟩ := ob1 (show 1 ≤ d by omega)
  have o2 := hok.2.1
  obtain ⟨σ', k1, k2⟩ := s188x (d := d) (by omega) hok (T.length - rT r) (rT r) σ (by omega) rfl hF hT h10 h14 h8 h9
  refine ⟨σ', ?_, k2⟩
  rw [ce_188]
  exact k1
theorem s188 {d : Nat} (h : 7 ≤ d) {σ0 σ : HP} {T : List Nat} {r : RD} (hR : RM σ0 σ T r) : ∃ σ', clR PG0 MX d 188 [vR 101] σ = some (0, σ') ∧ RM σ0 σ' T (rdAdv T r) := s188y h hR.1 hR.2.1 hR.2.2.1.1 hR.2.2.1.2.2.2.1 hR.2.2.1.2.2.2.2.1 hR.2.2.1.2.2.2.2.2.1 hR.2.2.2
/-- faultsAt -/
theorem s192 {d : Nat} (h : 1 ≤ d) {σ0 σ : HP} {T : List Nat} {r : RD} (hR : RM σ0 σ T r) {k : Nat} (hk : k ≤ 4) (hk0 : k ≠ 0) (p : Int) : ∃ σ', clR PG0 MX d 192 [vR 101, vI k, vI p] σ = some (0, σ') ∧ RM σ0 σ' T (if rK r ≠ 0 then r else rdBl k p r) := by
  obtain ⟨d, rfl⟩ := ob1 (show 1 ≤ d by omega)
  obtain ⟨hF, hT, ⟨q1, q2, q3, q4, q5, q6, q7⟩, hok⟩ := id hR
  have hy := hF.2
  have y1 := hy.1; have k101 := y101_m1 hy
  by_cases z : rK r ≠ 0
  · rw [if_pos z]
    refine ⟨σ, ?_, hR⟩
    rw [decide_eq_true z] at q4
    rw [ce_192, sg_192_0]
    (try simp (disch := omega) only [q4, wr_id2])
    repeat (first | ((with_reducible refine step_t ?_ ?_); with_reducible exact True.intro) | ((with_reducible refine step_t ?_ ?_); omega) | ((with_reducible refine step_f ?_ ?_); omega))
    refine step_t (show wr (b2i true) ≠ 0 by decide) ?_
    rfl
  · rw [if_neg z]
    rw [decide_eq_false z] at q4
    have F1 : FT σ0 (up σ 101 14 1) := hF.upf (by omega) okf_14
    have F2 : FT σ0 (up (up σ 101 14 1) 101 8 k) := F1.upf (by omega) okf_8
    have F3 : FT σ0 (up (up (up σ 101 14 1) 101 8 k) 101 9 p) := F2.upf (by omega) okf_9
    have hy1 := F1.2
    have y1b := hy1.1; have k101b := y101_m1 hy1
    have hy2 := F2.2
    have y1c := hy2.1; have k101c := y101_m1 hy2
    have g : ∀ j, j ≠ 14 → j ≠ 8 → j ≠ 9 → (up (up (up σ 101 14 1) 101 8 k) 101 9 p) 101 j = σ 101 j := fun j h1 h2 h3 => by rw [up_n2 _ _ _ _ h3, up_n2 _ _ _ _ h2, up_n2 _ _ _ _ h1]
    refine ⟨_, ?_, F3, inT_up (inT_up (inT_up hT (by omega)) (by omega)) (by omega), ⟨?_, ?_, ?_, ?_, ?_, up_s _ _ _ _, fun q => ?_⟩, bl_ok hok hk p⟩
    · rw [ce_192, sg_192_0]
      (try simp (disch := omega) only [q4, wr_id2])
      repeat (first | ((with_reducible refine step_t ?_ ?_); with_reducible exact True.intro) | ((with_reducible refine step_t ?_ ?_); omega) | ((with_reducible refine step_f ?_ ?_); omega))
      refine step_f (show ¬ (wr (b2i false) ≠ 0) by decide) ?_
      repeat (first | ((with_reducible refine step_t ?_ ?_); with_reducible exact True.intro) | ((with_reducible refine step_t ?_ ?_); omega) | ((with_reducible refine step_f ?_ ?_); omega))
      rfl
    · rw [g _ (by omega) (by omega) (by omega)]; exact q1
    · rw [g _ (by omega) (by omega) (by omega)]; exact q2
    · rw [g _ (by omega) (by omega) (by omega)]; exact q3
    · show _ = b2i (decide (k ≠ 0))
      rw [up_n2 _ _ _ _ (by omega), up_n2 _ _ _ _ (by omega), up_s, decide_eq_true hk0]; rfl
    · rw [up_n2 _ _ _ _ (by omega), up_s]; rfl
    · rw [g _ (by omega) (by omega) (by omega)]; exact q7 q
/-- must -/
def rdM (T : List Nat) (b : Bool) (r : RD) : RD := if rK r ≠ 0 then r else if b = true then rdAdv T r else rdBl 1 (rF r : Nat) r
theorem s191 {d : Nat} (h : 8 ≤ d) {σ0 σ : HP} {T : List Nat} {r : RD} (hR : RM σ0 σ T r) (b : Bool) : ∃ σ', clR PG0 MX d 191 [vR 101, vI (b2i b)] σ = some (0, σ') ∧ RM σ0 σ' T (rdM T b r) := by
  obtain ⟨d, rfl⟩ := ob1 (show 1 ≤ d by omega)
  obtain ⟨hF, hT, ⟨q1, q2, q3, q4, q5, q6, q7⟩, hok⟩ := id hR
  have hy := hF.2
  have y1 := hy.1; have k101 := y101_m1 hy
  have bad : ∀ (σ1 : HP) (r1 : RD) (u : MV), rK r1 ≠ 0 → RM σ0 σ1 T r1 → rsP PG0 MX d 191 13 [vR 101, u] [] σ1 = some (0, σ1) := by
    intro σ1 r1 u hk hR1
    have hy := hR1.1.2
    have y1 := hy.1; have k101 := y101_m1 hy
    have q4 := hR1.2.2.1.2.2.2.1
    rw [decide_eq_true hk] at q4
    rw [sg_191_13]
    (try simp (disch := omega) only [q4, wr_id2])
    repeat (first | ((with_reducible refine step_t ?_ ?_); with_reducible exact True.intro) | ((with_reducible refine step_t ?_ ?_); omega) | ((with_reducible refine step_f ?_ ?_); omega))
    refine step_t (show wr (b2i true) ≠ 0 by decide) ?_
    rfl
  unfold rdM
  rw [ce_191, sg_191_0, wr_b2i]
  cases b with
  | true =>
    by_cases z : rK r ≠ 0
    · rw [if_pos z]
      refine ⟨σ, ?_, hR⟩
      refine step_t (show b2i true ≠ 0 by decide) ?_
      exact bad σ r _ z hR
    · rw [if_neg z, if_pos rfl]
      obtain ⟨σ1, k1, k2⟩ := s188 (d := d) (by omega) hR
      rw [decide_eq_false z] at q4
      refine ⟨σ1, ?_, k2⟩
      refine step_t (show b2i true ≠ 0 by decide) ?_
      rw [sg_191_13]
      (try simp (disch := omega) only [q4, wr_id2])
      repeat (first | ((with_reducible refine step_t ?_ ?_); with_reducible exact True.intro) | ((with_reducible refine step_t ?_ ?_); omega) | ((with_reducible refine step_f ?_ ?_); omega))
      refine step_f (show ¬ (wr (b2i false) ≠ 0) by decide) ?_
      repeat (first | ((with_reducible refine step_t ?_ ?_); with_reducible exact True.intro) | ((with_reducible refine step_t ?_ ?_); omega) | ((with_reducible refine step_f ?_ ?_); omega))
      refine step_c (k1) ?_
      try dsimp only
  | false =>
    obtain ⟨σ1, k1, k2⟩ := s192 (d := d) (by omega) hR (k := 1) (by omega) (by omega) (rF r : Nat)
    have k1 : clR PG0 MX d 192 [vR 101, vI 1, vI (rF r : Nat)] σ = some (0, σ1) := k1
    have e : (if rK r ≠ 0 then r else if false = true then rdAdv T r else rdBl 1 (rF r : Nat) r) = (if rK r ≠ 0 then r else rdBl 1 (rF r : Nat) r) := by
      by_cases z : rK r ≠ 0
      · rw [if_pos z, if_pos z]
      · rw [if_neg z, if_neg z, if_neg (by decide)]
    rw [e]
    refine ⟨σ1, ?_, k2⟩
    refine step_f (show ¬ (b2i false ≠ 0) by decide) ?_
    (try simp (disch := omega) only [q2, wr_id2])
    repeat (first | ((with_reducible refine step_t ?_ ?_); with_reducible exact True.intro) | ((with_reducible refine step_t ?_ ?_); omega) | ((with_reducible refine step_f ?_ ?_); omega))
    refine step_c (k1) ?_
    try dsimp only
    refine bad σ1 _ _ ?_ k2
    by_cases z : rK r ≠ 0
    · rw [if_pos z]; exact z
    · rw [if_neg z]; show (1 : Nat) ≠ 0; omega
