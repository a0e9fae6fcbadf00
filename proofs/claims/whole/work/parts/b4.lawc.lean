/-! THE LAW: its cases -/
theorem lw_244 {d : Nat} (hd : 1000 ≤ d) {σ : HP} {S : AS} {n i : Nat} {xs : Nat → Int} (h : LQI σ S n xs i) (hi : i + 6 ≤ n) : ∃ σ' S', rsP PG0 MX d 286 244 [vR 1, vR 32, vR 101, vI i] [] σ = rsP PG0 MX d 286 18 [vR 1, vR 32, vR 101, vI ((i : Int) + 6)] [] σ' ∧ LQI σ' S' n xs (i + 6) := by
  obtain ⟨y1, a1, s1, s2, hn, g⟩ := h.gd
  have e1 : σ 1 ((i : Int) + 1) = xs (i + 1) := (g (i + 1) (by omega)).1
  have i1 := (g (i + 1) (by omega)).2
  have p1 := i1.1; have q1 := i1.2
  have e2 : σ 1 ((i : Int) + 2) = xs (i + 2) := (g (i + 2) (by omega)).1
  have i2 := (g (i + 2) (by omega)).2
  have p2 := i2.1; have q2 := i2.2
  have e3 : σ 1 ((i : Int) + 3) = xs (i + 3) := (g (i + 3) (by omega)).1
  have i3 := (g (i + 3) (by omega)).2
  have p3 := i3.1; have q3 := i3.2
  have e4 : σ 1 ((i : Int) + 4) = xs (i + 4) := (g (i + 4) (by omega)).1
  have i4 := (g (i + 4) (by omega)).2
  have p4 := i4.1; have q4 := i4.2
  have e5 : σ 1 ((i : Int) + 5) = xs (i + 5) := (g (i + 5) (by omega)).1
  have i5 := (g (i + 5) (by omega)).2
  have p5 := i5.1; have q5 := i5.2
  obtain ⟨σ1, σ2, k1, k2, ⟨z1, z2, t1, t2, gb⟩, L2⟩ := law_op (c10 S (xs (i + 1)) (xs (i + 2)) (xs (i + 3)) (xs (i + 4)) (xs (i + 5))) (m185 S (xs (i + 1)) (xs (i + 2)) (xs (i + 3)) (xs (i + 4)) (xs (i + 5))) hd h
  have f1 : σ1 1 ((i : Int) + 1) = xs (i + 1) := gb (i + 1) (by omega)
  have f2 : σ1 1 ((i : Int) + 2) = xs (i + 2) := gb (i + 2) (by omega)
  have f3 : σ1 1 ((i : Int) + 3) = xs (i + 3) := gb (i + 3) (by omega)
  have f4 : σ1 1 ((i : Int) + 4) = xs (i + 4) := gb (i + 4) (by omega)
  have f5 : σ1 1 ((i : Int) + 5) = xs (i + 5) := gb (i + 5) (by omega)
  refine ⟨σ2, _, ?_, L2⟩
  rw [sg_286_244]
  (try simp (disch := omega) only [e1, e2, e3, e4, e5, wr_id2])
  repeat (first | ((with_reducible refine step_t ?_ ?_); with_reducible exact True.intro) | ((with_reducible refine step_t ?_ ?_); omega) | ((with_reducible refine step_f ?_ ?_); omega))
  refine step_c (k1) ?_
  try dsimp only
  (try simp (disch := omega) only [f1, f2, f3, f4, f5, wr_id2])
  repeat (first | ((with_reducible refine step_t ?_ ?_); with_reducible exact True.intro) | ((with_reducible refine step_t ?_ ?_); omega) | ((with_reducible refine step_f ?_ ?_); omega))
  refine step_c (k2) ?_
  try dsimp only
  refine step_t rfl ?_
  rfl
theorem lw_307 {d : Nat} (hd : 1000 ≤ d) {σ : HP} {S : AS} {n i : Nat} {xs : Nat → Int} (h : LQI σ S n xs i) (hi : i + 6 ≤ n) : ∃ σ' S', rsP PG0 MX d 286 307 [vR 1, vR 32, vR 101, vI i] [] σ = rsP PG0 MX d 286 18 [vR 1, vR 32, vR 101, vI ((i : Int) + 6)] [] σ' ∧ LQI σ' S' n xs (i + 6) := by
  obtain ⟨y1, a1, s1, s2, hn, g⟩ := h.gd
  have e1 : σ 1 ((i : Int) + 1) = xs (i + 1) := (g (i + 1) (by omega)).1
  have i1 := (g (i + 1) (by omega)).2
  have p1 := i1.1; have q1 := i1.2
  obtain ⟨σ1, σ2, k1, k2, ⟨z1, z2, t1, t2, gb⟩, L2⟩ := law_op (c14 S i1) (m186 S i1) hd h
  have f1 : σ1 1 ((i : Int) + 1) = xs (i + 1) := gb (i + 1) (by omega)
  refine ⟨σ2, _, ?_, L2⟩
  rw [sg_286_307]
  (try simp (disch := omega) only [e1, wr_id2])
  repeat (first | ((with_reducible refine step_t ?_ ?_); with_reducible exact True.intro) | ((with_reducible refine step_t ?_ ?_); omega) | ((with_reducible refine step_f ?_ ?_); omega))
  refine step_c (k1) ?_
  try dsimp only
  (try simp (disch := omega) only [f1, wr_id2])
  repeat (first | ((with_reducible refine step_t ?_ ?_); with_reducible exact True.intro) | ((with_reducible refine step_t ?_ ?_); omega) | ((with_reducible refine step_f ?_ ?_); omega))
  refine step_c (k2) ?_
  try dsimp only
  refine step_t rfl ?_
  rfl
theorem lw_330 {d : Nat} (hd : 1000 ≤ d) {σ : HP} {S : AS} {n i : Nat} {xs : Nat → Int} (h : LQI σ S n xs i) (hi : i + 6 ≤ n) : ∃ σ' S', rsP PG0 MX d 286 330 [vR 1, vR 32, vR 101, vI i] [] σ = rsP PG0 MX d 286 18 [vR 1, vR 32, vR 101, vI ((i : Int) + 6)] [] σ' ∧ LQI σ' S' n xs (i + 6) := by
  obtain ⟨y1, a1, s1, s2, hn, g⟩ := h.gd
  have e1 : σ 1 ((i : Int) + 1) = xs (i + 1) := (g (i + 1) (by omega)).1
  have i1 := (g (i + 1) (by omega)).2
  have p1 := i1.1; have q1 := i1.2
  obtain ⟨σ1, σ2, k1, k2, ⟨z1, z2, t1, t2, gb⟩, L2⟩ := law_op (c15 S i1) (m187 S i1) hd h
  have f1 : σ1 1 ((i : Int) + 1) = xs (i + 1) := gb (i + 1) (by omega)
  refine ⟨σ2, _, ?_, L2⟩
  rw [sg_286_330]
  (try simp (disch := omega) only [e1, wr_id2])
  repeat (first | ((with_reducible refine step_t ?_ ?_); with_reducible exact True.intro) | ((with_reducible refine step_t ?_ ?_); omega) | ((with_reducible refine step_f ?_ ?_); omega))
  refine step_c (k1) ?_
  try dsimp only
  (try simp (disch := omega) only [f1, wr_id2])
  repeat (first | ((with_reducible refine step_t ?_ ?_); with_reducible exact True.intro) | ((with_reducible refine step_t ?_ ?_); omega) | ((with_reducible refine step_f ?_ ?_); omega))
  refine step_c (k2) ?_
  try dsimp only
  refine step_t rfl ?_
  rfl
theorem lw_353 {d : Nat} (hd : 1000 ≤ d) {σ : HP} {S : AS} {n i : Nat} {xs : Nat → Int} (h : LQI σ S n xs i) (hi : i + 6 ≤ n) : ∃ σ' S', rsP PG0 MX d 286 353 [vR 1, vR 32, vR 101, vI i] [] σ = rsP PG0 MX d 286 18 [vR 1, vR 32, vR 101, vI ((i : Int) + 6)] [] σ' ∧ LQI σ' S' n xs (i + 6) := by
  obtain ⟨y1, a1, s1, s2, hn, g⟩ := h.gd
  have e1 : σ 1 ((i : Int) + 1) = xs (i + 1) := (g (i + 1) (by omega)).1
  have i1 := (g (i + 1) (by omega)).2
  have p1 := i1.1; have q1 := i1.2
  obtain ⟨σ1, σ2, k1, k2, ⟨z1, z2, t1, t2, gb⟩, L2⟩ := law_op (c37 S i1) (m198 S i1) hd h
  have f1 : σ1 1 ((i : Int) + 1) = xs (i + 1) := gb (i + 1) (by omega)
  refine ⟨σ2, _, ?_, L2⟩
  rw [sg_286_353]
  (try simp (disch := omega) only [e1, wr_id2])
  repeat (first | ((with_reducible refine step_t ?_ ?_); with_reducible exact True.intro) | ((with_reducible refine step_t ?_ ?_); omega) | ((with_reducible refine step_f ?_ ?_); omega))
  refine step_c (k1) ?_
  try dsimp only
  (try simp (disch := omega) only [f1, wr_id2])
  repeat (first | ((with_reducible refine step_t ?_ ?_); with_reducible exact True.intro) | ((with_reducible refine step_t ?_ ?_); omega) | ((with_reducible refine step_f ?_ ?_); omega))
  refine step_c (k2) ?_
  try dsimp only
  refine step_t rfl ?_
  rfl
theorem lw_376 {d : Nat} (hd : 1000 ≤ d) {σ : HP} {S : AS} {n i : Nat} {xs : Nat → Int} (h : LQI σ S n xs i) (hi : i + 6 ≤ n) : ∃ σ' S', rsP PG0 MX d 286 376 [vR 1, vR 32, vR 101, vI i] [] σ = rsP PG0 MX d 286 18 [vR 1, vR 32, vR 101, vI ((i : Int) + 6)] [] σ' ∧ LQI σ' S' n xs (i + 6) := by
  obtain ⟨y1, a1, s1, s2, hn, g⟩ := h.gd
  have e1 : σ 1 ((i : Int) + 1) = xs (i + 1) := (g (i + 1) (by omega)).1
  have i1 := (g (i + 1) (by omega)).2
  have p1 := i1.1; have q1 := i1.2
  obtain ⟨σ1, σ2, k1, k2, ⟨z1, z2, t1, t2, gb⟩, L2⟩ := law_op (c38 S i1) (m199 S i1) hd h
  have f1 : σ1 1 ((i : Int) + 1) = xs (i + 1) := gb (i + 1) (by omega)
  refine ⟨σ2, _, ?_, L2⟩
  rw [sg_286_376]
  (try simp (disch := omega) only [e1, wr_id2])
  repeat (first | ((with_reducible refine step_t ?_ ?_); with_reducible exact True.intro) | ((with_reducible refine step_t ?_ ?_); omega) | ((with_reducible refine step_f ?_ ?_); omega))
  refine step_c (k1) ?_
  try dsimp only
  (try simp (disch := omega) only [f1, wr_id2])
  repeat (first | ((with_reducible refine step_t ?_ ?_); with_reducible exact True.intro) | ((with_reducible refine step_t ?_ ?_); omega) | ((with_reducible refine step_f ?_ ?_); omega))
  refine step_c (k2) ?_
  try dsimp only
  refine step_t rfl ?_
  rfl
theorem lw_399 {d : Nat} (hd : 1000 ≤ d) {σ : HP} {S : AS} {n i : Nat} {xs : Nat → Int} (h : LQI σ S n xs i) (hi : i + 6 ≤ n) : ∃ σ' S', rsP PG0 MX d 286 399 [vR 1, vR 32, vR 101, vI i] [] σ = rsP PG0 MX d 286 18 [vR 1, vR 32, vR 101, vI ((i : Int) + 6)] [] σ' ∧ LQI σ' S' n xs (i + 6) := by
  obtain ⟨y1, a1, s1, s2, hn, g⟩ := h.gd
  have e1 : σ 1 ((i : Int) + 1) = xs (i + 1) := (g (i + 1) (by omega)).1
  have i1 := (g (i + 1) (by omega)).2
  have p1 := i1.1; have q1 := i1.2
  have e2 : σ 1 ((i : Int) + 2) = xs (i + 2) := (g (i + 2) (by omega)).1
  have i2 := (g (i + 2) (by omega)).2
  have p2 := i2.1; have q2 := i2.2
  obtain ⟨σ1, σ2, k1, k2, ⟨z1, z2, t1, t2, gb⟩, L2⟩ := law_op (c40 S i1 i2) (m217 S i1 i2) hd h
  have f1 : σ1 1 ((i : Int) + 1) = xs (i + 1) := gb (i + 1) (by omega)
  have f2 : σ1 1 ((i : Int) + 2) = xs (i + 2) := gb (i + 2) (by omega)
  refine ⟨σ2, _, ?_, L2⟩
  rw [sg_286_399]
  (try simp (disch := omega) only [e1, e2, wr_id2])
  repeat (first | ((with_reducible refine step_t ?_ ?_); with_reducible exact True.intro) | ((with_reducible refine step_t ?_ ?_); omega) | ((with_reducible refine step_f ?_ ?_); omega))
  refine step_c (k1) ?_
  try dsimp only
  (try simp (disch := omega) only [f1, f2, wr_id2])
  repeat (first | ((with_reducible refine step_t ?_ ?_); with_reducible exact True.intro) | ((with_reducible refine step_t ?_ ?_); omega) | ((with_reducible refine step_f ?_ ?_); omega))
  refine step_c (k2) ?_
  try dsimp only
  refine step_t rfl ?_
  rfl
theorem lw_432 {d : Nat} (hd : 1000 ≤ d) {σ : HP} {S : AS} {n i : Nat} {xs : Nat → Int} (h : LQI σ S n xs i) (hi : i + 6 ≤ n) : ∃ σ' S', rsP PG0 MX d 286 432 [vR 1, vR 32, vR 101, vI i] [] σ = rsP PG0 MX d 286 18 [vR 1, vR 32, vR 101, vI ((i : Int) + 6)] [] σ' ∧ LQI σ' S' n xs (i + 6) := by
  obtain ⟨y1, a1, s1, s2, hn, g⟩ := h.gd
  have e1 : σ 1 ((i : Int) + 1) = xs (i + 1) := (g (i + 1) (by omega)).1
  have i1 := (g (i + 1) (by omega)).2
  have p1 := i1.1; have q1 := i1.2
  have e2 : σ 1 ((i : Int) + 2) = xs (i + 2) := (g (i + 2) (by omega)).1
  have i2 := (g (i + 2) (by omega)).2
  have p2 := i2.1; have q2 := i2.2
  obtain ⟨σ1, σ2, k1, k2, ⟨z1, z2, t1, t2, gb⟩, L2⟩ := law_op (c51 S i1 i2) (m200 S i1 i2) hd h
  have f1 : σ1 1 ((i : Int) + 1) = xs (i + 1) := gb (i + 1) (by omega)
  have f2 : σ1 1 ((i : Int) + 2) = xs (i + 2) := gb (i + 2) (by omega)
  refine ⟨σ2, _, ?_, L2⟩
  rw [sg_286_432]
  (try simp (disch := omega) only [e1, e2, wr_id2])
  repeat (first | ((with_reducible refine step_t ?_ ?_); with_reducible exact True.intro) | ((with_reducible refine step_t ?_ ?_); omega) | ((with_reducible refine step_f ?_ ?_); omega))
  refine step_c (k1) ?_
  try dsimp only
  (try simp (disch := omega) only [f1, f2, wr_id2])
  repeat (first | ((with_reducible refine step_t ?_ ?_); with_reducible exact True.intro) | ((with_reducible refine step_t ?_ ?_); omega) | ((with_reducible refine step_f ?_ ?_); omega))
  refine step_c (k2) ?_
  try dsimp only
  refine step_t rfl ?_
  rfl
theorem lw_465 {d : Nat} (hd : 1000 ≤ d) {σ : HP} {S : AS} {n i : Nat} {xs : Nat → Int} (h : LQI σ S n xs i) (hi : i + 6 ≤ n) : ∃ σ' S', rsP PG0 MX d 286 465 [vR 1, vR 32, vR 101, vI i] [] σ = rsP PG0 MX d 286 18 [vR 1, vR 32, vR 101, vI ((i : Int) + 6)] [] σ' ∧ LQI σ' S' n xs (i + 6) := by
  obtain ⟨y1, a1, s1, s2, hn, g⟩ := h.gd
  have e1 : σ 1 ((i : Int) + 1) = xs (i + 1) := (g (i + 1) (by omega)).1
  have i1 := (g (i + 1) (by omega)).2
  have p1 := i1.1; have q1 := i1.2
  have e2 : σ 1 ((i : Int) + 2) = xs (i + 2) := (g (i + 2) (by omega)).1
  have i2 := (g (i + 2) (by omega)).2
  have p2 := i2.1; have q2 := i2.2
  obtain ⟨σ1, σ2, k1, k2, ⟨z1, z2, t1, t2, gb⟩, L2⟩ := law_op (c65 S i1 i2) (m218 S i1 i2) hd h
  have f1 : σ1 1 ((i : Int) + 1) = xs (i + 1) := gb (i + 1) (by omega)
  have f2 : σ1 1 ((i : Int) + 2) = xs (i + 2) := gb (i + 2) (by omega)
  refine ⟨σ2, _, ?_, L2⟩
  rw [sg_286_465]
  (try simp (disch := omega) only [e1, e2, wr_id2])
  repeat (first | ((with_reducible refine step_t ?_ ?_); with_reducible exact True.intro) | ((with_reducible refine step_t ?_ ?_); omega) | ((with_reducible refine step_f ?_ ?_); omega))
  refine step_c (k1) ?_
  try dsimp only
  (try simp (disch := omega) only [f1, f2, wr_id2])
  repeat (first | ((with_reducible refine step_t ?_ ?_); with_reducible exact True.intro) | ((with_reducible refine step_t ?_ ?_); omega) | ((with_reducible refine step_f ?_ ?_); omega))
  refine step_c (k2) ?_
  try dsimp only
  refine step_t rfl ?_
  rfl
theorem lw_498 {d : Nat} (hd : 1000 ≤ d) {σ : HP} {S : AS} {n i : Nat} {xs : Nat → Int} (h : LQI σ S n xs i) (hi : i + 6 ≤ n) : ∃ σ' S', rsP PG0 MX d 286 498 [vR 1, vR 32, vR 101, vI i] [] σ = rsP PG0 MX d 286 18 [vR 1, vR 32, vR 101, vI ((i : Int) + 6)] [] σ' ∧ LQI σ' S' n xs (i + 6) := by
  obtain ⟨y1, a1, s1, s2, hn, g⟩ := h.gd
  have e1 : σ 1 ((i : Int) + 1) = xs (i + 1) := (g (i + 1) (by omega)).1
  have i1 := (g (i + 1) (by omega)).2
  have p1 := i1.1; have q1 := i1.2
  have e2 : σ 1 ((i : Int) + 2) = xs (i + 2) := (g (i + 2) (by omega)).1
  have i2 := (g (i + 2) (by omega)).2
  have p2 := i2.1; have q2 := i2.2
  obtain ⟨σ1, σ2, k1, k2, ⟨z1, z2, t1, t2, gb⟩, L2⟩ := law_op (c66 S i1 i2) (m219 S i1 i2) hd h
  have f1 : σ1 1 ((i : Int) + 1) = xs (i + 1) := gb (i + 1) (by omega)
  have f2 : σ1 1 ((i : Int) + 2) = xs (i + 2) := gb (i + 2) (by omega)
  refine ⟨σ2, _, ?_, L2⟩
  rw [sg_286_498]
  (try simp (disch := omega) only [e1, e2, wr_id2])
  repeat (first | ((with_reducible refine step_t ?_ ?_); with_reducible exact True.intro) | ((with_reducible refine step_t ?_ ?_); omega) | ((with_reducible refine step_f ?_ ?_); omega))
  refine step_c (k1) ?_
  try dsimp only
  (try simp (disch := omega) only [f1, f2, wr_id2])
  repeat (first | ((with_reducible refine step_t ?_ ?_); with_reducible exact True.intro) | ((with_reducible refine step_t ?_ ?_); omega) | ((with_reducible refine step_f ?_ ?_); omega))
  refine step_c (k2) ?_
  try dsimp only
  refine step_t rfl ?_
  rfl
theorem lw_531 {d : Nat} (hd : 1000 ≤ d) {σ : HP} {S : AS} {n i : Nat} {xs : Nat → Int} (h : LQI σ S n xs i) (hi : i + 6 ≤ n) : ∃ σ' S', rsP PG0 MX d 286 531 [vR 1, vR 32, vR 101, vI i] [] σ = rsP PG0 MX d 286 18 [vR 1, vR 32, vR 101, vI ((i : Int) + 6)] [] σ' ∧ LQI σ' S' n xs (i + 6) := by
  obtain ⟨y1, a1, s1, s2, hn, g⟩ := h.gd
  have e1 : σ 1 ((i : Int) + 1) = xs (i + 1) := (g (i + 1) (by omega)).1
  have i1 := (g (i + 1) (by omega)).2
  have p1 := i1.1; have q1 := i1.2
  have e2 : σ 1 ((i : Int) + 2) = xs (i + 2) := (g (i + 2) (by omega)).1
  have i2 := (g (i + 2) (by omega)).2
  have p2 := i2.1; have q2 := i2.2
  have e3 : σ 1 ((i : Int) + 3) = xs (i + 3) := (g (i + 3) (by omega)).1
  have i3 := (g (i + 3) (by omega)).2
  have p3 := i3.1; have q3 := i3.2
  obtain ⟨σ1, σ2, k1, k2, ⟨z1, z2, t1, t2, gb⟩, L2⟩ := law_op (c67 S i1 i2 i3) (m220 S i1 i2 i3) hd h
  have f1 : σ1 1 ((i : Int) + 1) = xs (i + 1) := gb (i + 1) (by omega)
  have f2 : σ1 1 ((i : Int) + 2) = xs (i + 2) := gb (i + 2) (by omega)
  have f3 : σ1 1 ((i : Int) + 3) = xs (i + 3) := gb (i + 3) (by omega)
  refine ⟨σ2, _, ?_, L2⟩
  rw [sg_286_531]
  (try simp (disch := omega) only [e1, e2, e3, wr_id2])
  repeat (first | ((with_reducible refine step_t ?_ ?_); with_reducible exact True.intro) | ((with_reducible refine step_t ?_ ?_); omega) | ((with_reducible refine step_f ?_ ?_); omega))
  refine step_c (k1) ?_
  try dsimp only
  (try simp (disch := omega) only [f1, f2, f3, wr_id2])
  repeat (first | ((with_reducible refine step_t ?_ ?_); with_reducible exact True.intro) | ((with_reducible refine step_t ?_ ?_); omega) | ((with_reducible refine step_f ?_ ?_); omega))
  refine step_c (k2) ?_
  try dsimp only
  refine step_t rfl ?_
  rfl
theorem lw_574 {d : Nat} (hd : 1000 ≤ d) {σ : HP} {S : AS} {n i : Nat} {xs : Nat → Int} (h : LQI σ S n xs i) (hi : i + 6 ≤ n) : ∃ σ' S', rsP PG0 MX d 286 574 [vR 1, vR 32, vR 101, vI i] [] σ = rsP PG0 MX d 286 18 [vR 1, vR 32, vR 101, vI ((i : Int) + 6)] [] σ' ∧ LQI σ' S' n xs (i + 6) := by
  obtain ⟨y1, a1, s1, s2, hn, g⟩ := h.gd
  have e1 : σ 1 ((i : Int) + 1) = xs (i + 1) := (g (i + 1) (by omega)).1
  have i1 := (g (i + 1) (by omega)).2
  have p1 := i1.1; have q1 := i1.2
  have e2 : σ 1 ((i : Int) + 2) = xs (i + 2) := (g (i + 2) (by omega)).1
  have i2 := (g (i + 2) (by omega)).2
  have p2 := i2.1; have q2 := i2.2
  obtain ⟨σ1, σ2, k1, k2, ⟨z1, z2, t1, t2, gb⟩, L2⟩ := law_op (c69 S i1 i2) (m222 S i1 i2) hd h
  have f1 : σ1 1 ((i : Int) + 1) = xs (i + 1) := gb (i + 1) (by omega)
  have f2 : σ1 1 ((i : Int) + 2) = xs (i + 2) := gb (i + 2) (by omega)
  refine ⟨σ2, _, ?_, L2⟩
  rw [sg_286_574]
  (try simp (disch := omega) only [e1, e2, wr_id2])
  repeat (first | ((with_reducible refine step_t ?_ ?_); with_reducible exact True.intro) | ((with_reducible refine step_t ?_ ?_); omega) | ((with_reducible refine step_f ?_ ?_); omega))
  refine step_c (k1) ?_
  try dsimp only
  (try simp (disch := omega) only [f1, f2, wr_id2])
  repeat (first | ((with_reducible refine step_t ?_ ?_); with_reducible exact True.intro) | ((with_reducible refine step_t ?_ ?_); omega) | ((with_reducible refine step_f ?_ ?_); omega))
  refine step_c (k2) ?_
  try dsimp only
  refine step_t rfl ?_
  rfl
theorem lw_607 {d : Nat} (hd : 1000 ≤ d) {σ : HP} {S : AS} {n i : Nat} {xs : Nat → Int} (h : LQI σ S n xs i) (hi : i + 6 ≤ n) : ∃ σ' S', rsP PG0 MX d 286 607 [vR 1, vR 32, vR 101, vI i] [] σ = rsP PG0 MX d 286 18 [vR 1, vR 32, vR 101, vI ((i : Int) + 6)] [] σ' ∧ LQI σ' S' n xs (i + 6) := by
  obtain ⟨y1, a1, s1, s2, hn, g⟩ := h.gd
  have e1 : σ 1 ((i : Int) + 1) = xs (i + 1) := (g (i + 1) (by omega)).1
  have i1 := (g (i + 1) (by omega)).2
  have p1 := i1.1; have q1 := i1.2
  have e2 : σ 1 ((i : Int) + 2) = xs (i + 2) := (g (i + 2) (by omega)).1
  have i2 := (g (i + 2) (by omega)).2
  have p2 := i2.1; have q2 := i2.2
  obtain ⟨σ1, σ2, k1, k2, ⟨z1, z2, t1, t2, gb⟩, L2⟩ := law_op (c71 S i1 i2) (m223 S i1 i2) hd h
  have f1 : σ1 1 ((i : Int) + 1) = xs (i + 1) := gb (i + 1) (by omega)
  have f2 : σ1 1 ((i : Int) + 2) = xs (i + 2) := gb (i + 2) (by omega)
  refine ⟨σ2, _, ?_, L2⟩
  rw [sg_286_607]
  (try simp (disch := omega) only [e1, e2, wr_id2])
  repeat (first | ((with_reducible refine step_t ?_ ?_); with_reducible exact True.intro) | ((with_reducible refine step_t ?_ ?_); omega) | ((with_reducible refine step_f ?_ ?_); omega))
  refine step_c (k1) ?_
  try dsimp only
  (try simp (disch := omega) only [f1, f2, wr_id2])
  repeat (first | ((with_reducible refine step_t ?_ ?_); with_reducible exact True.intro) | ((with_reducible refine step_t ?_ ?_); omega) | ((with_reducible refine step_f ?_ ?_); omega))
  refine step_c (k2) ?_
  try dsimp only
  refine step_t rfl ?_
  rfl
theorem lw_640 {d : Nat} (hd : 1000 ≤ d) {σ : HP} {S : AS} {n i : Nat} {xs : Nat → Int} (h : LQI σ S n xs i) (hi : i + 6 ≤ n) : ∃ σ' S', rsP PG0 MX d 286 640 [vR 1, vR 32, vR 101, vI i] [] σ = rsP PG0 MX d 286 18 [vR 1, vR 32, vR 101, vI ((i : Int) + 6)] [] σ' ∧ LQI σ' S' n xs (i + 6) := by
  obtain ⟨y1, a1, s1, s2, hn, g⟩ := h.gd
  have e1 : σ 1 ((i : Int) + 1) = xs (i + 1) := (g (i + 1) (by omega)).1
  have i1 := (g (i + 1) (by omega)).2
  have p1 := i1.1; have q1 := i1.2
  have e2 : σ 1 ((i : Int) + 2) = xs (i + 2) := (g (i + 2) (by omega)).1
  have i2 := (g (i + 2) (by omega)).2
  have p2 := i2.1; have q2 := i2.2
  obtain ⟨σ1, σ2, k1, k2, ⟨z1, z2, t1, t2, gb⟩, L2⟩ := law_op (c73 S i1 i2) (m226 S i1 i2) hd h
  have f1 : σ1 1 ((i : Int) + 1) = xs (i + 1) := gb (i + 1) (by omega)
  have f2 : σ1 1 ((i : Int) + 2) = xs (i + 2) := gb (i + 2) (by omega)
  refine ⟨σ2, _, ?_, L2⟩
  rw [sg_286_640]
  (try simp (disch := omega) only [e1, e2, wr_id2])
  repeat (first | ((with_reducible refine step_t ?_ ?_); with_reducible exact True.intro) | ((with_reducible refine step_t ?_ ?_); omega) | ((with_reducible refine step_f ?_ ?_); omega))
  refine step_c (k1) ?_
  try dsimp only
  (try simp (disch := omega) only [f1, f2, wr_id2])
  repeat (first | ((with_reducible refine step_t ?_ ?_); with_reducible exact True.intro) | ((with_reducible refine step_t ?_ ?_); omega) | ((with_reducible refine step_f ?_ ?_); omega))
  refine step_c (k2) ?_
  try dsimp only
  refine step_t rfl ?_
  rfl
theorem lw_673 {d : Nat} (hd : 1000 ≤ d) {σ : HP} {S : AS} {n i : Nat} {xs : Nat → Int} (h : LQI σ S n xs i) (hi : i + 6 ≤ n) : ∃ σ' S', rsP PG0 MX d 286 673 [vR 1, vR 32, vR 101, vI i] [] σ = rsP PG0 MX d 286 18 [vR 1, vR 32, vR 101, vI ((i : Int) + 6)] [] σ' ∧ LQI σ' S' n xs (i + 6) := by
  obtain ⟨y1, a1, s1, s2, hn, g⟩ := h.gd
  have e1 : σ 1 ((i : Int) + 1) = xs (i + 1) := (g (i + 1) (by omega)).1
  have i1 := (g (i + 1) (by omega)).2
  have p1 := i1.1; have q1 := i1.2
  obtain ⟨σ1, σ2, k1, k2, ⟨z1, z2, t1, t2, gb⟩, L2⟩ := law_op (c75 S i1) (m227 S i1) hd h
  have f1 : σ1 1 ((i : Int) + 1) = xs (i + 1) := gb (i + 1) (by omega)
  refine ⟨σ2, _, ?_, L2⟩
  rw [sg_286_673]
  (try simp (disch := omega) only [e1, wr_id2])
  repeat (first | ((with_reducible refine step_t ?_ ?_); with_reducible exact True.intro) | ((with_reducible refine step_t ?_ ?_); omega) | ((with_reducible refine step_f ?_ ?_); omega))
  refine step_c (k1) ?_
  try dsimp only
  (try simp (disch := omega) only [f1, wr_id2])
  repeat (first | ((with_reducible refine step_t ?_ ?_); with_reducible exact True.intro) | ((with_reducible refine step_t ?_ ?_); omega) | ((with_reducible refine step_f ?_ ?_); omega))
  refine step_c (k2) ?_
  try dsimp only
  refine step_t rfl ?_
  rfl
theorem lw_696 {d : Nat} (hd : 1000 ≤ d) {σ : HP} {S : AS} {n i : Nat} {xs : Nat → Int} (h : LQI σ S n xs i) (hi : i + 6 ≤ n) : ∃ σ' S', rsP PG0 MX d 286 696 [vR 1, vR 32, vR 101, vI i] [] σ = rsP PG0 MX d 286 18 [vR 1, vR 32, vR 101, vI ((i : Int) + 6)] [] σ' ∧ LQI σ' S' n xs (i + 6) := by
  obtain ⟨y1, a1, s1, s2, hn, g⟩ := h.gd
  have e1 : σ 1 ((i : Int) + 1) = xs (i + 1) := (g (i + 1) (by omega)).1
  have i1 := (g (i + 1) (by omega)).2
  have p1 := i1.1; have q1 := i1.2
  have e2 : σ 1 ((i : Int) + 2) = xs (i + 2) := (g (i + 2) (by omega)).1
  have i2 := (g (i + 2) (by omega)).2
  have p2 := i2.1; have q2 := i2.2
  obtain ⟨σ1, σ2, k1, k2, ⟨z1, z2, t1, t2, gb⟩, L2⟩ := law_op (c77 S i1 i2) (m228 S i1 i2) hd h
  have f1 : σ1 1 ((i : Int) + 1) = xs (i + 1) := gb (i + 1) (by omega)
  have f2 : σ1 1 ((i : Int) + 2) = xs (i + 2) := gb (i + 2) (by omega)
  refine ⟨σ2, _, ?_, L2⟩
  rw [sg_286_696]
  (try simp (disch := omega) only [e1, e2, wr_id2])
  repeat (first | ((with_reducible refine step_t ?_ ?_); with_reducible exact True.intro) | ((with_reducible refine step_t ?_ ?_); omega) | ((with_reducible refine step_f ?_ ?_); omega))
  refine step_c (k1) ?_
  try dsimp only
  (try simp (disch := omega) only [f1, f2, wr_id2])
  repeat (first | ((with_reducible refine step_t ?_ ?_); with_reducible exact True.intro) | ((with_reducible refine step_t ?_ ?_); omega) | ((with_reducible refine step_f ?_ ?_); omega))
  refine step_c (k2) ?_
  try dsimp only
  refine step_t rfl ?_
  rfl
theorem lw_729 {d : Nat} (hd : 1000 ≤ d) {σ : HP} {S : AS} {n i : Nat} {xs : Nat → Int} (h : LQI σ S n xs i) (hi : i + 6 ≤ n) : ∃ σ' S', rsP PG0 MX d 286 729 [vR 1, vR 32, vR 101, vI i] [] σ = rsP PG0 MX d 286 18 [vR 1, vR 32, vR 101, vI ((i : Int) + 6)] [] σ' ∧ LQI σ' S' n xs (i + 6) := by
  obtain ⟨y1, a1, s1, s2, hn, g⟩ := h.gd
  have e1 : σ 1 ((i : Int) + 1) = xs (i + 1) := (g (i + 1) (by omega)).1
  have i1 := (g (i + 1) (by omega)).2
  have p1 := i1.1; have q1 := i1.2
  have e2 : σ 1 ((i : Int) + 2) = xs (i + 2) := (g (i + 2) (by omega)).1
  have i2 := (g (i + 2) (by omega)).2
  have p2 := i2.1; have q2 := i2.2
  have e3 : σ 1 ((i : Int) + 3) = xs (i + 3) := (g (i + 3) (by omega)).1
  have i3 := (g (i + 3) (by omega)).2
  have p3 := i3.1; have q3 := i3.2
  obtain ⟨σ1, σ2, k1, k2, ⟨z1, z2, t1, t2, gb⟩, L2⟩ := law_op (c81 S i1 i2 i3) (m230 S i1 i2 i3) hd h
  have f1 : σ1 1 ((i : Int) + 1) = xs (i + 1) := gb (i + 1) (by omega)
  have f2 : σ1 1 ((i : Int) + 2) = xs (i + 2) := gb (i + 2) (by omega)
  have f3 : σ1 1 ((i : Int) + 3) = xs (i + 3) := gb (i + 3) (by omega)
  refine ⟨σ2, _, ?_, L2⟩
  rw [sg_286_729]
  (try simp (disch := omega) only [e1, e2, e3, wr_id2])
  repeat (first | ((with_reducible refine step_t ?_ ?_); with_reducible exact True.intro) | ((with_reducible refine step_t ?_ ?_); omega) | ((with_reducible refine step_f ?_ ?_); omega))
  refine step_c (k1) ?_
  try dsimp only
  (try simp (disch := omega) only [f1, f2, f3, wr_id2])
  repeat (first | ((with_reducible refine step_t ?_ ?_); with_reducible exact True.intro) | ((with_reducible refine step_t ?_ ?_); omega) | ((with_reducible refine step_f ?_ ?_); omega))
  refine step_c (k2) ?_
  try dsimp only
  refine step_t rfl ?_
  rfl
theorem lw_772 {d : Nat} (hd : 1000 ≤ d) {σ : HP} {S : AS} {n i : Nat} {xs : Nat → Int} (h : LQI σ S n xs i) (hi : i + 6 ≤ n) : ∃ σ' S', rsP PG0 MX d 286 772 [vR 1, vR 32, vR 101, vI i] [] σ = rsP PG0 MX d 286 18 [vR 1, vR 32, vR 101, vI ((i : Int) + 6)] [] σ' ∧ LQI σ' S' n xs (i + 6) := by
  obtain ⟨y1, a1, s1, s2, hn, g⟩ := h.gd
  have e1 : σ 1 ((i : Int) + 1) = xs (i + 1) := (g (i + 1) (by omega)).1
  have i1 := (g (i + 1) (by omega)).2
  have p1 := i1.1; have q1 := i1.2
  have e2 : σ 1 ((i : Int) + 2) = xs (i + 2) := (g (i + 2) (by omega)).1
  have i2 := (g (i + 2) (by omega)).2
  have p2 := i2.1; have q2 := i2.2
  have e3 : σ 1 ((i : Int) + 3) = xs (i + 3) := (g (i + 3) (by omega)).1
  have i3 := (g (i + 3) (by omega)).2
  have p3 := i3.1; have q3 := i3.2
  obtain ⟨σ1, σ2, k1, k2, ⟨z1, z2, t1, t2, gb⟩, L2⟩ := law_op (c84 S i1 i2 i3) (m232 S i1 i2 i3) hd h
  have f1 : σ1 1 ((i : Int) + 1) = xs (i + 1) := gb (i + 1) (by omega)
  have f2 : σ1 1 ((i : Int) + 2) = xs (i + 2) := gb (i + 2) (by omega)
  have f3 : σ1 1 ((i : Int) + 3) = xs (i + 3) := gb (i + 3) (by omega)
  refine ⟨σ2, _, ?_, L2⟩
  rw [sg_286_772]
  (try simp (disch := omega) only [e1, e2, e3, wr_id2])
  repeat (first | ((with_reducible refine step_t ?_ ?_); with_reducible exact True.intro) | ((with_reducible refine step_t ?_ ?_); omega) | ((with_reducible refine step_f ?_ ?_); omega))
  refine step_c (k1) ?_
  try dsimp only
  (try simp (disch := omega) only [f1, f2, f3, wr_id2])
  repeat (first | ((with_reducible refine step_t ?_ ?_); with_reducible exact True.intro) | ((with_reducible refine step_t ?_ ?_); omega) | ((with_reducible refine step_f ?_ ?_); omega))
  refine step_c (k2) ?_
  try dsimp only
  refine step_t rfl ?_
  rfl
theorem lw_815 {d : Nat} (hd : 1000 ≤ d) {σ : HP} {S : AS} {n i : Nat} {xs : Nat → Int} (h : LQI σ S n xs i) (hi : i + 6 ≤ n) : ∃ σ' S', rsP PG0 MX d 286 815 [vR 1, vR 32, vR 101, vI i] [] σ = rsP PG0 MX d 286 18 [vR 1, vR 32, vR 101, vI ((i : Int) + 6)] [] σ' ∧ LQI σ' S' n xs (i + 6) := by
  obtain ⟨y1, a1, s1, s2, hn, g⟩ := h.gd
  have e1 : σ 1 ((i : Int) + 1) = xs (i + 1) := (g (i + 1) (by omega)).1
  have i1 := (g (i + 1) (by omega)).2
  have p1 := i1.1; have q1 := i1.2
  have e2 : σ 1 ((i : Int) + 2) = xs (i + 2) := (g (i + 2) (by omega)).1
  have i2 := (g (i + 2) (by omega)).2
  have p2 := i2.1; have q2 := i2.2
  have e3 : σ 1 ((i : Int) + 3) = xs (i + 3) := (g (i + 3) (by omega)).1
  have i3 := (g (i + 3) (by omega)).2
  have p3 := i3.1; have q3 := i3.2
  obtain ⟨σ1, σ2, k1, k2, ⟨z1, z2, t1, t2, gb⟩, L2⟩ := law_op (c86 S i1 i2 i3) (m233 S i1 i2 i3) hd h
  have f1 : σ1 1 ((i : Int) + 1) = xs (i + 1) := gb (i + 1) (by omega)
  have f2 : σ1 1 ((i : Int) + 2) = xs (i + 2) := gb (i + 2) (by omega)
  have f3 : σ1 1 ((i : Int) + 3) = xs (i + 3) := gb (i + 3) (by omega)
  refine ⟨σ2, _, ?_, L2⟩
  rw [sg_286_815]
  (try simp (disch := omega) only [e1, e2, e3, wr_id2])
  repeat (first | ((with_reducible refine step_t ?_ ?_); with_reducible exact True.intro) | ((with_reducible refine step_t ?_ ?_); omega) | ((with_reducible refine step_f ?_ ?_); omega))
  refine step_c (k1) ?_
  try dsimp only
  (try simp (disch := omega) only [f1, f2, f3, wr_id2])
  repeat (first | ((with_reducible refine step_t ?_ ?_); with_reducible exact True.intro) | ((with_reducible refine step_t ?_ ?_); omega) | ((with_reducible refine step_f ?_ ?_); omega))
  refine step_c (k2) ?_
  try dsimp only
  refine step_t rfl ?_
  rfl
theorem lw_858 {d : Nat} (hd : 1000 ≤ d) {σ : HP} {S : AS} {n i : Nat} {xs : Nat → Int} (h : LQI σ S n xs i) (hi : i + 6 ≤ n) : ∃ σ' S', rsP PG0 MX d 286 858 [vR 1, vR 32, vR 101, vI i] [] σ = rsP PG0 MX d 286 18 [vR 1, vR 32, vR 101, vI ((i : Int) + 6)] [] σ' ∧ LQI σ' S' n xs (i + 6) := by
  obtain ⟨y1, a1, s1, s2, hn, g⟩ := h.gd
  have e1 : σ 1 ((i : Int) + 1) = xs (i + 1) := (g (i + 1) (by omega)).1
  have i1 := (g (i + 1) (by omega)).2
  have p1 := i1.1; have q1 := i1.2
  have e2 : σ 1 ((i : Int) + 2) = xs (i + 2) := (g (i + 2) (by omega)).1
  have i2 := (g (i + 2) (by omega)).2
  have p2 := i2.1; have q2 := i2.2
  obtain ⟨σ1, σ2, k1, k2, ⟨z1, z2, t1, t2, gb⟩, L2⟩ := law_op (c88 S i1 i2) (m239 S i1 i2) hd h
  have f1 : σ1 1 ((i : Int) + 1) = xs (i + 1) := gb (i + 1) (by omega)
  have f2 : σ1 1 ((i : Int) + 2) = xs (i + 2) := gb (i + 2) (by omega)
  refine ⟨σ2, _, ?_, L2⟩
  rw [sg_286_858]
  (try simp (disch := omega) only [e1, e2, wr_id2])
  repeat (first | ((with_reducible refine step_t ?_ ?_); with_reducible exact True.intro) | ((with_reducible refine step_t ?_ ?_); omega) | ((with_reducible refine step_f ?_ ?_); omega))
  refine step_c (k1) ?_
  try dsimp only
  (try simp (disch := omega) only [f1, f2, wr_id2])
  repeat (first | ((with_reducible refine step_t ?_ ?_); with_reducible exact True.intro) | ((with_reducible refine step_t ?_ ?_); omega) | ((with_reducible refine step_f ?_ ?_); omega))
  refine step_c (k2) ?_
  try dsimp only
  refine step_t rfl ?_
  rfl
theorem lw_891 {d : Nat} (hd : 1000 ≤ d) {σ : HP} {S : AS} {n i : Nat} {xs : Nat → Int} (h : LQI σ S n xs i) (hi : i + 6 ≤ n) : ∃ σ' S', rsP PG0 MX d 286 891 [vR 1, vR 32, vR 101, vI i] [] σ = rsP PG0 MX d 286 18 [vR 1, vR 32, vR 101, vI ((i : Int) + 6)] [] σ' ∧ LQI σ' S' n xs (i + 6) := by
  obtain ⟨y1, a1, s1, s2, hn, g⟩ := h.gd
  have e1 : σ 1 ((i : Int) + 1) = xs (i + 1) := (g (i + 1) (by omega)).1
  have i1 := (g (i + 1) (by omega)).2
  have p1 := i1.1; have q1 := i1.2
  have e2 : σ 1 ((i : Int) + 2) = xs (i + 2) := (g (i + 2) (by omega)).1
  have i2 := (g (i + 2) (by omega)).2
  have p2 := i2.1; have q2 := i2.2
  obtain ⟨σ1, σ2, k1, k2, ⟨z1, z2, t1, t2, gb⟩, L2⟩ := law_op (c89 S i1 i2) (m235 S i1 i2) hd h
  have f1 : σ1 1 ((i : Int) + 1) = xs (i + 1) := gb (i + 1) (by omega)
  have f2 : σ1 1 ((i : Int) + 2) = xs (i + 2) := gb (i + 2) (by omega)
  refine ⟨σ2, _, ?_, L2⟩
  rw [sg_286_891]
  (try simp (disch := omega) only [e1, e2, wr_id2])
  repeat (first | ((with_reducible refine step_t ?_ ?_); with_reducible exact True.intro) | ((with_reducible refine step_t ?_ ?_); omega) | ((with_reducible refine step_f ?_ ?_); omega))
  refine step_c (k1) ?_
  try dsimp only
  (try simp (disch := omega) only [f1, f2, wr_id2])
  repeat (first | ((with_reducible refine step_t ?_ ?_); with_reducible exact True.intro) | ((with_reducible refine step_t ?_ ?_); omega) | ((with_reducible refine step_f ?_ ?_); omega))
  refine step_c (k2) ?_
  try dsimp only
  refine step_t rfl ?_
  rfl
theorem lw_924 {d : Nat} (hd : 1000 ≤ d) {σ : HP} {S : AS} {n i : Nat} {xs : Nat → Int} (h : LQI σ S n xs i) (hi : i + 6 ≤ n) : ∃ σ' S', rsP PG0 MX d 286 924 [vR 1, vR 32, vR 101, vI i] [] σ = rsP PG0 MX d 286 18 [vR 1, vR 32, vR 101, vI ((i : Int) + 6)] [] σ' ∧ LQI σ' S' n xs (i + 6) := by
  obtain ⟨y1, a1, s1, s2, hn, g⟩ := h.gd
  have e1 : σ 1 ((i : Int) + 1) = xs (i + 1) := (g (i + 1) (by omega)).1
  have i1 := (g (i + 1) (by omega)).2
  have p1 := i1.1; have q1 := i1.2
  have e2 : σ 1 ((i : Int) + 2) = xs (i + 2) := (g (i + 2) (by omega)).1
  have i2 := (g (i + 2) (by omega)).2
  have p2 := i2.1; have q2 := i2.2
  have e3 : σ 1 ((i : Int) + 3) = xs (i + 3) := (g (i + 3) (by omega)).1
  have i3 := (g (i + 3) (by omega)).2
  have p3 := i3.1; have q3 := i3.2
  obtain ⟨σ1, σ2, k1, k2, ⟨z1, z2, t1, t2, gb⟩, L2⟩ := law_op (c90 S i1 i2 i3) (m236 S i1 i2 i3) hd h
  have f1 : σ1 1 ((i : Int) + 1) = xs (i + 1) := gb (i + 1) (by omega)
  have f2 : σ1 1 ((i : Int) + 2) = xs (i + 2) := gb (i + 2) (by omega)
  have f3 : σ1 1 ((i : Int) + 3) = xs (i + 3) := gb (i + 3) (by omega)
  refine ⟨σ2, _, ?_, L2⟩
  rw [sg_286_924]
  (try simp (disch := omega) only [e1, e2, e3, wr_id2])
  repeat (first | ((with_reducible refine step_t ?_ ?_); with_reducible exact True.intro) | ((with_reducible refine step_t ?_ ?_); omega) | ((with_reducible refine step_f ?_ ?_); omega))
  refine step_c (k1) ?_
  try dsimp only
  (try simp (disch := omega) only [f1, f2, f3, wr_id2])
  repeat (first | ((with_reducible refine step_t ?_ ?_); with_reducible exact True.intro) | ((with_reducible refine step_t ?_ ?_); omega) | ((with_reducible refine step_f ?_ ?_); omega))
  refine step_c (k2) ?_
  try dsimp only
  refine step_t rfl ?_
  rfl
theorem lw_967 {d : Nat} (hd : 1000 ≤ d) {σ : HP} {S : AS} {n i : Nat} {xs : Nat → Int} (h : LQI σ S n xs i) (hi : i + 6 ≤ n) : ∃ σ' S', rsP PG0 MX d 286 967 [vR 1, vR 32, vR 101, vI i] [] σ = rsP PG0 MX d 286 18 [vR 1, vR 32, vR 101, vI ((i : Int) + 6)] [] σ' ∧ LQI σ' S' n xs (i + 6) := by
  obtain ⟨y1, a1, s1, s2, hn, g⟩ := h.gd
  have e1 : σ 1 ((i : Int) + 1) = xs (i + 1) := (g (i + 1) (by omega)).1
  have i1 := (g (i + 1) (by omega)).2
  have p1 := i1.1; have q1 := i1.2
  obtain ⟨σ1, σ2, k1, k2, ⟨z1, z2, t1, t2, gb⟩, L2⟩ := law_op (c92 S i1) (m237 S i1) hd h
  have f1 : σ1 1 ((i : Int) + 1) = xs (i + 1) := gb (i + 1) (by omega)
  refine ⟨σ2, _, ?_, L2⟩
  rw [sg_286_967]
  (try simp (disch := omega) only [e1, wr_id2])
  repeat (first | ((with_reducible refine step_t ?_ ?_); with_reducible exact True.intro) | ((with_reducible refine step_t ?_ ?_); omega) | ((with_reducible refine step_f ?_ ?_); omega))
  refine step_c (k1) ?_
  try dsimp only
  (try simp (disch := omega) only [f1, wr_id2])
  repeat (first | ((with_reducible refine step_t ?_ ?_); with_reducible exact True.intro) | ((with_reducible refine step_t ?_ ?_); omega) | ((with_reducible refine step_f ?_ ?_); omega))
  refine step_c (k2) ?_
  try dsimp only
  refine step_t rfl ?_
  rfl
theorem lw_990 {d : Nat} (hd : 1000 ≤ d) {σ : HP} {S : AS} {n i : Nat} {xs : Nat → Int} (h : LQI σ S n xs i) (hi : i + 6 ≤ n) : ∃ σ' S', rsP PG0 MX d 286 990 [vR 1, vR 32, vR 101, vI i] [] σ = rsP PG0 MX d 286 18 [vR 1, vR 32, vR 101, vI ((i : Int) + 6)] [] σ' ∧ LQI σ' S' n xs (i + 6) := by
  obtain ⟨y1, a1, s1, s2, hn, g⟩ := h.gd
  have e1 : σ 1 ((i : Int) + 1) = xs (i + 1) := (g (i + 1) (by omega)).1
  have i1 := (g (i + 1) (by omega)).2
  have p1 := i1.1; have q1 := i1.2
  have e2 : σ 1 ((i : Int) + 2) = xs (i + 2) := (g (i + 2) (by omega)).1
  have i2 := (g (i + 2) (by omega)).2
  have p2 := i2.1; have q2 := i2.2
  have e3 : σ 1 ((i : Int) + 3) = xs (i + 3) := (g (i + 3) (by omega)).1
  have i3 := (g (i + 3) (by omega)).2
  have p3 := i3.1; have q3 := i3.2
  obtain ⟨σ1, σ2, k1, k2, ⟨z1, z2, t1, t2, gb⟩, L2⟩ := law_op (c96 S i1 i2 i3) (m234 S i1 i2 i3) hd h
  have f1 : σ1 1 ((i : Int) + 1) = xs (i + 1) := gb (i + 1) (by omega)
  have f2 : σ1 1 ((i : Int) + 2) = xs (i + 2) := gb (i + 2) (by omega)
  have f3 : σ1 1 ((i : Int) + 3) = xs (i + 3) := gb (i + 3) (by omega)
  refine ⟨σ2, _, ?_, L2⟩
  rw [sg_286_990]
  (try simp (disch := omega) only [e1, e2, e3, wr_id2])
  repeat (first | ((with_reducible refine step_t ?_ ?_); with_reducible exact True.intro) | ((with_reducible refine step_t ?_ ?_); omega) | ((with_reducible refine step_f ?_ ?_); omega))
  refine step_c (k1) ?_
  try dsimp only
  (try simp (disch := omega) only [f1, f2, f3, wr_id2])
  repeat (first | ((with_reducible refine step_t ?_ ?_); with_reducible exact True.intro) | ((with_reducible refine step_t ?_ ?_); omega) | ((with_reducible refine step_f ?_ ?_); omega))
  refine step_c (k2) ?_
  try dsimp only
  refine step_t rfl ?_
  rfl
theorem lw_1033 {d : Nat} (hd : 1000 ≤ d) {σ : HP} {S : AS} {n i : Nat} {xs : Nat → Int} (h : LQI σ S n xs i) (hi : i + 6 ≤ n) : ∃ σ' S', rsP PG0 MX d 286 1033 [vR 1, vR 32, vR 101, vI i] [] σ = rsP PG0 MX d 286 18 [vR 1, vR 32, vR 101, vI ((i : Int) + 6)] [] σ' ∧ LQI σ' S' n xs (i + 6) := by
  obtain ⟨y1, a1, s1, s2, hn, g⟩ := h.gd
  have e1 : σ 1 ((i : Int) + 1) = xs (i + 1) := (g (i + 1) (by omega)).1
  have i1 := (g (i + 1) (by omega)).2
  have p1 := i1.1; have q1 := i1.2
  obtain ⟨σ1, σ2, k1, k2, ⟨z1, z2, t1, t2, gb⟩, L2⟩ := law_op (c98 S i1) (m240 S i1) hd h
  have f1 : σ1 1 ((i : Int) + 1) = xs (i + 1) := gb (i + 1) (by omega)
  refine ⟨σ2, _, ?_, L2⟩
  rw [sg_286_1033]
  (try simp (disch := omega) only [e1, wr_id2])
  repeat (first | ((with_reducible refine step_t ?_ ?_); with_reducible exact True.intro) | ((with_reducible refine step_t ?_ ?_); omega) | ((with_reducible refine step_f ?_ ?_); omega))
  refine step_c (k1) ?_
  try dsimp only
  (try simp (disch := omega) only [f1, wr_id2])
  repeat (first | ((with_reducible refine step_t ?_ ?_); with_reducible exact True.intro) | ((with_reducible refine step_t ?_ ?_); omega) | ((with_reducible refine step_f ?_ ?_); omega))
  refine step_c (k2) ?_
  try dsimp only
  refine step_t rfl ?_
  rfl
theorem lw_1056 {d : Nat} (hd : 1000 ≤ d) {σ : HP} {S : AS} {n i : Nat} {xs : Nat → Int} (h : LQI σ S n xs i) (hi : i + 6 ≤ n) : ∃ σ' S', rsP PG0 MX d 286 1056 [vR 1, vR 32, vR 101, vI i] [] σ = rsP PG0 MX d 286 18 [vR 1, vR 32, vR 101, vI ((i : Int) + 6)] [] σ' ∧ LQI σ' S' n xs (i + 6) := by
  obtain ⟨y1, a1, s1, s2, hn, g⟩ := h.gd
  have e1 : σ 1 ((i : Int) + 1) = xs (i + 1) := (g (i + 1) (by omega)).1
  have i1 := (g (i + 1) (by omega)).2
  have p1 := i1.1; have q1 := i1.2
  obtain ⟨σ1, σ2, k1, k2, ⟨z1, z2, t1, t2, gb⟩, L2⟩ := law_op (c99 S i1) (m241 S i1) hd h
  have f1 : σ1 1 ((i : Int) + 1) = xs (i + 1) := gb (i + 1) (by omega)
  refine ⟨σ2, _, ?_, L2⟩
  rw [sg_286_1056]
  (try simp (disch := omega) only [e1, wr_id2])
  repeat (first | ((with_reducible refine step_t ?_ ?_); with_reducible exact True.intro) | ((with_reducible refine step_t ?_ ?_); omega) | ((with_reducible refine step_f ?_ ?_); omega))
  refine step_c (k1) ?_
  try dsimp only
  (try simp (disch := omega) only [f1, wr_id2])
  repeat (first | ((with_reducible refine step_t ?_ ?_); with_reducible exact True.intro) | ((with_reducible refine step_t ?_ ?_); omega) | ((with_reducible refine step_f ?_ ?_); omega))
  refine step_c (k2) ?_
  try dsimp only
  refine step_t rfl ?_
  rfl
theorem lw_1079 {d : Nat} (hd : 1000 ≤ d) {σ : HP} {S : AS} {n i : Nat} {xs : Nat → Int} (h : LQI σ S n xs i) (hi : i + 6 ≤ n) : ∃ σ' S', rsP PG0 MX d 286 1079 [vR 1, vR 32, vR 101, vI i] [] σ = rsP PG0 MX d 286 18 [vR 1, vR 32, vR 101, vI ((i : Int) + 6)] [] σ' ∧ LQI σ' S' n xs (i + 6) := by
  obtain ⟨y1, a1, s1, s2, hn, g⟩ := h.gd
  have e1 : σ 1 ((i : Int) + 1) = xs (i + 1) := (g (i + 1) (by omega)).1
  have i1 := (g (i + 1) (by omega)).2
  have p1 := i1.1; have q1 := i1.2
  obtain ⟨σ1, σ2, k1, k2, ⟨z1, z2, t1, t2, gb⟩, L2⟩ := law_op (c100 S i1) (m242 S i1) hd h
  have f1 : σ1 1 ((i : Int) + 1) = xs (i + 1) := gb (i + 1) (by omega)
  refine ⟨σ2, _, ?_, L2⟩
  rw [sg_286_1079]
  (try simp (disch := omega) only [e1, wr_id2])
  repeat (first | ((with_reducible refine step_t ?_ ?_); with_reducible exact True.intro) | ((with_reducible refine step_t ?_ ?_); omega) | ((with_reducible refine step_f ?_ ?_); omega))
  refine step_c (k1) ?_
  try dsimp only
  (try simp (disch := omega) only [f1, wr_id2])
  repeat (first | ((with_reducible refine step_t ?_ ?_); with_reducible exact True.intro) | ((with_reducible refine step_t ?_ ?_); omega) | ((with_reducible refine step_f ?_ ?_); omega))
  refine step_c (k2) ?_
  try dsimp only
  refine step_t rfl ?_
  rfl
theorem lw_1102 {d : Nat} (hd : 1000 ≤ d) {σ : HP} {S : AS} {n i : Nat} {xs : Nat → Int} (h : LQI σ S n xs i) (hi : i + 6 ≤ n) : ∃ σ' S', rsP PG0 MX d 286 1102 [vR 1, vR 32, vR 101, vI i] [] σ = rsP PG0 MX d 286 18 [vR 1, vR 32, vR 101, vI ((i : Int) + 6)] [] σ' ∧ LQI σ' S' n xs (i + 6) := by
  obtain ⟨y1, a1, s1, s2, hn, g⟩ := h.gd
  have e1 : σ 1 ((i : Int) + 1) = xs (i + 1) := (g (i + 1) (by omega)).1
  have i1 := (g (i + 1) (by omega)).2
  have p1 := i1.1; have q1 := i1.2
  have e2 : σ 1 ((i : Int) + 2) = xs (i + 2) := (g (i + 2) (by omega)).1
  have i2 := (g (i + 2) (by omega)).2
  have p2 := i2.1; have q2 := i2.2
  obtain ⟨σ1, σ2, k1, k2, ⟨z1, z2, t1, t2, gb⟩, L2⟩ := law_op (c102 S i1 i2) (m244 S i1 i2) hd h
  have f1 : σ1 1 ((i : Int) + 1) = xs (i + 1) := gb (i + 1) (by omega)
  have f2 : σ1 1 ((i : Int) + 2) = xs (i + 2) := gb (i + 2) (by omega)
  refine ⟨σ2, _, ?_, L2⟩
  rw [sg_286_1102]
  (try simp (disch := omega) only [e1, e2, wr_id2])
  repeat (first | ((with_reducible refine step_t ?_ ?_); with_reducible exact True.intro) | ((with_reducible refine step_t ?_ ?_); omega) | ((with_reducible refine step_f ?_ ?_); omega))
  refine step_c (k1) ?_
  try dsimp only
  (try simp (disch := omega) only [f1, f2, wr_id2])
  repeat (first | ((with_reducible refine step_t ?_ ?_); with_reducible exact True.intro) | ((with_reducible refine step_t ?_ ?_); omega) | ((with_reducible refine step_f ?_ ?_); omega))
  refine step_c (k2) ?_
  try dsimp only
  refine step_t rfl ?_
  rfl
theorem lw_1135 {d : Nat} (hd : 1000 ≤ d) {σ : HP} {S : AS} {n i : Nat} {xs : Nat → Int} (h : LQI σ S n xs i) (hi : i + 6 ≤ n) : ∃ σ' S', rsP PG0 MX d 286 1135 [vR 1, vR 32, vR 101, vI i] [] σ = rsP PG0 MX d 286 18 [vR 1, vR 32, vR 101, vI ((i : Int) + 6)] [] σ' ∧ LQI σ' S' n xs (i + 6) := by
  obtain ⟨y1, a1, s1, s2, hn, g⟩ := h.gd
  have e1 : σ 1 ((i : Int) + 1) = xs (i + 1) := (g (i + 1) (by omega)).1
  have i1 := (g (i + 1) (by omega)).2
  have p1 := i1.1; have q1 := i1.2
  have e2 : σ 1 ((i : Int) + 2) = xs (i + 2) := (g (i + 2) (by omega)).1
  have i2 := (g (i + 2) (by omega)).2
  have p2 := i2.1; have q2 := i2.2
  have e3 : σ 1 ((i : Int) + 3) = xs (i + 3) := (g (i + 3) (by omega)).1
  have i3 := (g (i + 3) (by omega)).2
  have p3 := i3.1; have q3 := i3.2
  obtain ⟨σ1, σ2, k1, k2, ⟨z1, z2, t1, t2, gb⟩, L2⟩ := law_op (c108 S i1 i2 i3) (m246 S i1 i2 i3) hd h
  have f1 : σ1 1 ((i : Int) + 1) = xs (i + 1) := gb (i + 1) (by omega)
  have f2 : σ1 1 ((i : Int) + 2) = xs (i + 2) := gb (i + 2) (by omega)
  have f3 : σ1 1 ((i : Int) + 3) = xs (i + 3) := gb (i + 3) (by omega)
  refine ⟨σ2, _, ?_, L2⟩
  rw [sg_286_1135]
  (try simp (disch := omega) only [e1, e2, e3, wr_id2])
  repeat (first | ((with_reducible refine step_t ?_ ?_); with_reducible exact True.intro) | ((with_reducible refine step_t ?_ ?_); omega) | ((with_reducible refine step_f ?_ ?_); omega))
  refine step_c (k1) ?_
  try dsimp only
  (try simp (disch := omega) only [f1, f2, f3, wr_id2])
  repeat (first | ((with_reducible refine step_t ?_ ?_); with_reducible exact True.intro) | ((with_reducible refine step_t ?_ ?_); omega) | ((with_reducible refine step_f ?_ ?_); omega))
  refine step_c (k2) ?_
  try dsimp only
  refine step_t rfl ?_
  rfl
theorem lw_1178 {d : Nat} (hd : 1000 ≤ d) {σ : HP} {S : AS} {n i : Nat} {xs : Nat → Int} (h : LQI σ S n xs i) (hi : i + 6 ≤ n) : ∃ σ' S', rsP PG0 MX d 286 1178 [vR 1, vR 32, vR 101, vI i] [] σ = rsP PG0 MX d 286 18 [vR 1, vR 32, vR 101, vI ((i : Int) + 6)] [] σ' ∧ LQI σ' S' n xs (i + 6) := by
  obtain ⟨y1, a1, s1, s2, hn, g⟩ := h.gd
  have e1 : σ 1 ((i : Int) + 1) = xs (i + 1) := (g (i + 1) (by omega)).1
  have i1 := (g (i + 1) (by omega)).2
  have p1 := i1.1; have q1 := i1.2
  have e2 : σ 1 ((i : Int) + 2) = xs (i + 2) := (g (i + 2) (by omega)).1
  have i2 := (g (i + 2) (by omega)).2
  have p2 := i2.1; have q2 := i2.2
  have e3 : σ 1 ((i : Int) + 3) = xs (i + 3) := (g (i + 3) (by omega)).1
  have i3 := (g (i + 3) (by omega)).2
  have p3 := i3.1; have q3 := i3.2
  obtain ⟨σ1, σ2, k1, k2, ⟨z1, z2, t1, t2, gb⟩, L2⟩ := law_op (c117 S (s := (xs (i + 1))) (c := (l_or (l_shl (xs (i + 2)) 32) (l_and (xs (i + 3)) 4294967295))) i1) (m250 S (s := (xs (i + 1))) (c := (l_or (l_shl (xs (i + 2)) 32) (l_and (xs (i + 3)) 4294967295))) i1) hd h
  have f1 : σ1 1 ((i : Int) + 1) = xs (i + 1) := gb (i + 1) (by omega)
  have f2 : σ1 1 ((i : Int) + 2) = xs (i + 2) := gb (i + 2) (by omega)
  have f3 : σ1 1 ((i : Int) + 3) = xs (i + 3) := gb (i + 3) (by omega)
  refine ⟨σ2, _, ?_, L2⟩
  rw [sg_286_1178]
  (try simp (disch := omega) only [e1, e2, e3, wr_id2])
  repeat (first | ((with_reducible refine step_t ?_ ?_); with_reducible exact True.intro) | ((with_reducible refine step_t ?_ ?_); omega) | ((with_reducible refine step_f ?_ ?_); omega))
  refine step_c (k1) ?_
  try dsimp only
  (try simp (disch := omega) only [f1, f2, f3, wr_id2])
  repeat (first | ((with_reducible refine step_t ?_ ?_); with_reducible exact True.intro) | ((with_reducible refine step_t ?_ ?_); omega) | ((with_reducible refine step_f ?_ ?_); omega))
  refine step_c (k2) ?_
  try dsimp only
  refine step_t rfl ?_
  rfl
theorem lw_1241 {d : Nat} (hd : 1000 ≤ d) {σ : HP} {S : AS} {n i : Nat} {xs : Nat → Int} (h : LQI σ S n xs i) (hi : i + 6 ≤ n) : ∃ σ' S', rsP PG0 MX d 286 1241 [vR 1, vR 32, vR 101, vI i] [] σ = rsP PG0 MX d 286 18 [vR 1, vR 32, vR 101, vI ((i : Int) + 6)] [] σ' ∧ LQI σ' S' n xs (i + 6) := by
  obtain ⟨y1, a1, s1, s2, hn, g⟩ := h.gd
  have e1 : σ 1 ((i : Int) + 1) = xs (i + 1) := (g (i + 1) (by omega)).1
  have i1 := (g (i + 1) (by omega)).2
  have p1 := i1.1; have q1 := i1.2
  obtain ⟨σ1, σ2, k1, k2, ⟨z1, z2, t1, t2, gb⟩, L2⟩ := law_op (c124 S i1) (m258 S i1) hd h
  have f1 : σ1 1 ((i : Int) + 1) = xs (i + 1) := gb (i + 1) (by omega)
  refine ⟨σ2, _, ?_, L2⟩
  rw [sg_286_1241]
  (try simp (disch := omega) only [e1, wr_id2])
  repeat (first | ((with_reducible refine step_t ?_ ?_); with_reducible exact True.intro) | ((with_reducible refine step_t ?_ ?_); omega) | ((with_reducible refine step_f ?_ ?_); omega))
  refine step_c (k1) ?_
  try dsimp only
  (try simp (disch := omega) only [f1, wr_id2])
  repeat (first | ((with_reducible refine step_t ?_ ?_); with_reducible exact True.intro) | ((with_reducible refine step_t ?_ ?_); omega) | ((with_reducible refine step_f ?_ ?_); omega))
  refine step_c (k2) ?_
  try dsimp only
  refine step_t rfl ?_
  rfl
theorem lw_1264 {d : Nat} (hd : 1000 ≤ d) {σ : HP} {S : AS} {n i : Nat} {xs : Nat → Int} (h : LQI σ S n xs i) (hi : i + 6 ≤ n) : ∃ σ' S', rsP PG0 MX d 286 1264 [vR 1, vR 32, vR 101, vI i] [] σ = rsP PG0 MX d 286 18 [vR 1, vR 32, vR 101, vI ((i : Int) + 6)] [] σ' ∧ LQI σ' S' n xs (i + 6) := by
  obtain ⟨y1, a1, s1, s2, hn, g⟩ := h.gd
  have e1 : σ 1 ((i : Int) + 1) = xs (i + 1) := (g (i + 1) (by omega)).1
  have i1 := (g (i + 1) (by omega)).2
  have p1 := i1.1; have q1 := i1.2
  have e2 : σ 1 ((i : Int) + 2) = xs (i + 2) := (g (i + 2) (by omega)).1
  have i2 := (g (i + 2) (by omega)).2
  have p2 := i2.1; have q2 := i2.2
  have e3 : σ 1 ((i : Int) + 3) = xs (i + 3) := (g (i + 3) (by omega)).1
  have i3 := (g (i + 3) (by omega)).2
  have p3 := i3.1; have q3 := i3.2
  obtain ⟨r, hr⟩ := WYA.ex S (xs (i + 1)) (xs (i + 2)) (xs (i + 3))
  obtain ⟨σ1, σ2, k1, k2, ⟨z1, z2, t1, t2, gb⟩, L2⟩ := law_op (c126 S i1 i2 i3 hr) (m259 S i1 i2 i3 hr) hd h
  have f1 : σ1 1 ((i : Int) + 1) = xs (i + 1) := gb (i + 1) (by omega)
  have f2 : σ1 1 ((i : Int) + 2) = xs (i + 2) := gb (i + 2) (by omega)
  have f3 : σ1 1 ((i : Int) + 3) = xs (i + 3) := gb (i + 3) (by omega)
  refine ⟨σ2, _, ?_, L2⟩
  rw [sg_286_1264]
  (try simp (disch := omega) only [e1, e2, e3, wr_id2])
  repeat (first | ((with_reducible refine step_t ?_ ?_); with_reducible exact True.intro) | ((with_reducible refine step_t ?_ ?_); omega) | ((with_reducible refine step_f ?_ ?_); omega))
  refine step_c (k1) ?_
  try dsimp only
  (try simp (disch := omega) only [f1, f2, f3, wr_id2])
  repeat (first | ((with_reducible refine step_t ?_ ?_); with_reducible exact True.intro) | ((with_reducible refine step_t ?_ ?_); omega) | ((with_reducible refine step_f ?_ ?_); omega))
  refine step_c (k2) ?_
  try dsimp only
  refine step_t rfl ?_
  rfl
theorem lw_1307 {d : Nat} (hd : 1000 ≤ d) {σ : HP} {S : AS} {n i : Nat} {xs : Nat → Int} (h : LQI σ S n xs i) (hi : i + 6 ≤ n) : ∃ σ' S', rsP PG0 MX d 286 1307 [vR 1, vR 32, vR 101, vI i] [] σ = rsP PG0 MX d 286 18 [vR 1, vR 32, vR 101, vI ((i : Int) + 6)] [] σ' ∧ LQI σ' S' n xs (i + 6) := by
  obtain ⟨y1, a1, s1, s2, hn, g⟩ := h.gd
  have e1 : σ 1 ((i : Int) + 1) = xs (i + 1) := (g (i + 1) (by omega)).1
  have i1 := (g (i + 1) (by omega)).2
  have p1 := i1.1; have q1 := i1.2
  have e2 : σ 1 ((i : Int) + 2) = xs (i + 2) := (g (i + 2) (by omega)).1
  have i2 := (g (i + 2) (by omega)).2
  have p2 := i2.1; have q2 := i2.2
  obtain ⟨σ1, σ2, k1, k2, ⟨z1, z2, t1, t2, gb⟩, L2⟩ := law_op (c128 S i1 i2) (m256 S i1 i2) hd h
  have f1 : σ1 1 ((i : Int) + 1) = xs (i + 1) := gb (i + 1) (by omega)
  have f2 : σ1 1 ((i : Int) + 2) = xs (i + 2) := gb (i + 2) (by omega)
  refine ⟨σ2, _, ?_, L2⟩
  rw [sg_286_1307]
  (try simp (disch := omega) only [e1, e2, wr_id2])
  repeat (first | ((with_reducible refine step_t ?_ ?_); with_reducible exact True.intro) | ((with_reducible refine step_t ?_ ?_); omega) | ((with_reducible refine step_f ?_ ?_); omega))
  refine step_c (k1) ?_
  try dsimp only
  (try simp (disch := omega) only [f1, f2, wr_id2])
  repeat (first | ((with_reducible refine step_t ?_ ?_); with_reducible exact True.intro) | ((with_reducible refine step_t ?_ ?_); omega) | ((with_reducible refine step_f ?_ ?_); omega))
  refine step_c (k2) ?_
  try dsimp only
  refine step_t (by rw [l_cmp_self]; rfl) ?_
  rfl
theorem lw_1341 {d : Nat} (hd : 1000 ≤ d) {σ : HP} {S : AS} {n i : Nat} {xs : Nat → Int} (h : LQI σ S n xs i) (hi : i + 6 ≤ n) : ∃ σ' S', rsP PG0 MX d 286 1341 [vR 1, vR 32, vR 101, vI i] [] σ = rsP PG0 MX d 286 18 [vR 1, vR 32, vR 101, vI ((i : Int) + 6)] [] σ' ∧ LQI σ' S' n xs (i + 6) := by
  obtain ⟨y1, a1, s1, s2, hn, g⟩ := h.gd
  have e1 : σ 1 ((i : Int) + 1) = xs (i + 1) := (g (i + 1) (by omega)).1
  have i1 := (g (i + 1) (by omega)).2
  have p1 := i1.1; have q1 := i1.2
  have e2 : σ 1 ((i : Int) + 2) = xs (i + 2) := (g (i + 2) (by omega)).1
  have i2 := (g (i + 2) (by omega)).2
  have p2 := i2.1; have q2 := i2.2
  have e3 : σ 1 ((i : Int) + 3) = xs (i + 3) := (g (i + 3) (by omega)).1
  have i3 := (g (i + 3) (by omega)).2
  have p3 := i3.1; have q3 := i3.2
  have e4 : σ 1 ((i : Int) + 4) = xs (i + 4) := (g (i + 4) (by omega)).1
  have i4 := (g (i + 4) (by omega)).2
  have p4 := i4.1; have q4 := i4.2
  obtain ⟨σ1, σ2, k1, k2, ⟨z1, z2, t1, t2, gb⟩, L2⟩ := law_op (c135 S i1 i2 i3 i4) (m260 S i1 i2 i3 i4) hd h
  have f1 : σ1 1 ((i : Int) + 1) = xs (i + 1) := gb (i + 1) (by omega)
  have f2 : σ1 1 ((i : Int) + 2) = xs (i + 2) := gb (i + 2) (by omega)
  have f3 : σ1 1 ((i : Int) + 3) = xs (i + 3) := gb (i + 3) (by omega)
  have f4 : σ1 1 ((i : Int) + 4) = xs (i + 4) := gb (i + 4) (by omega)
  refine ⟨σ2, _, ?_, L2⟩
  rw [sg_286_1341]
  (try simp (disch := omega) only [e1, e2, e3, e4, wr_id2])
  repeat (first | ((with_reducible refine step_t ?_ ?_); with_reducible exact True.intro) | ((with_reducible refine step_t ?_ ?_); omega) | ((with_reducible refine step_f ?_ ?_); omega))
  refine step_c (k1) ?_
  try dsimp only
  (try simp (disch := omega) only [f1, f2, f3, f4, wr_id2])
  repeat (first | ((with_reducible refine step_t ?_ ?_); with_reducible exact True.intro) | ((with_reducible refine step_t ?_ ?_); omega) | ((with_reducible refine step_f ?_ ?_); omega))
  refine step_c (k2) ?_
  try dsimp only
  refine step_t rfl ?_
  rfl
theorem lw_1394 {d : Nat} (hd : 1000 ≤ d) {σ : HP} {S : AS} {n i : Nat} {xs : Nat → Int} (h : LQI σ S n xs i) (hi : i + 6 ≤ n) : ∃ σ' S', rsP PG0 MX d 286 1394 [vR 1, vR 32, vR 101, vI i] [] σ = rsP PG0 MX d 286 18 [vR 1, vR 32, vR 101, vI ((i : Int) + 6)] [] σ' ∧ LQI σ' S' n xs (i + 6) := by
  obtain ⟨y1, a1, s1, s2, hn, g⟩ := h.gd
  have e1 : σ 1 ((i : Int) + 1) = xs (i + 1) := (g (i + 1) (by omega)).1
  have i1 := (g (i + 1) (by omega)).2
  have p1 := i1.1; have q1 := i1.2
  have e2 : σ 1 ((i : Int) + 2) = xs (i + 2) := (g (i + 2) (by omega)).1
  have i2 := (g (i + 2) (by omega)).2
  have p2 := i2.1; have q2 := i2.2
  have e3 : σ 1 ((i : Int) + 3) = xs (i + 3) := (g (i + 3) (by omega)).1
  have i3 := (g (i + 3) (by omega)).2
  have p3 := i3.1; have q3 := i3.2
  obtain ⟨σ1, σ2, k1, k2, ⟨z1, z2, t1, t2, gb⟩, L2⟩ := law_op (c143 S i1 i2 i3) (m266 S i1 i2 i3) hd h
  have f1 : σ1 1 ((i : Int) + 1) = xs (i + 1) := gb (i + 1) (by omega)
  have f2 : σ1 1 ((i : Int) + 2) = xs (i + 2) := gb (i + 2) (by omega)
  have f3 : σ1 1 ((i : Int) + 3) = xs (i + 3) := gb (i + 3) (by omega)
  refine ⟨σ2, _, ?_, L2⟩
  rw [sg_286_1394]
  (try simp (disch := omega) only [e1, e2, e3, wr_id2])
  repeat (first | ((with_reducible refine step_t ?_ ?_); with_reducible exact True.intro) | ((with_reducible refine step_t ?_ ?_); omega) | ((with_reducible refine step_f ?_ ?_); omega))
  refine step_c (k1) ?_
  try dsimp only
  (try simp (disch := omega) only [f1, f2, f3, wr_id2])
  repeat (first | ((with_reducible refine step_t ?_ ?_); with_reducible exact True.intro) | ((with_reducible refine step_t ?_ ?_); omega) | ((with_reducible refine step_f ?_ ?_); omega))
  refine step_c (k2) ?_
  try dsimp only
  refine step_t rfl ?_
  rfl
theorem lw_1437 {d : Nat} (hd : 1000 ≤ d) {σ : HP} {S : AS} {n i : Nat} {xs : Nat → Int} (h : LQI σ S n xs i) (hi : i + 6 ≤ n) : ∃ σ' S', rsP PG0 MX d 286 1437 [vR 1, vR 32, vR 101, vI i] [] σ = rsP PG0 MX d 286 18 [vR 1, vR 32, vR 101, vI ((i : Int) + 6)] [] σ' ∧ LQI σ' S' n xs (i + 6) := by
  obtain ⟨y1, a1, s1, s2, hn, g⟩ := h.gd
  have e1 : σ 1 ((i : Int) + 1) = xs (i + 1) := (g (i + 1) (by omega)).1
  have i1 := (g (i + 1) (by omega)).2
  have p1 := i1.1; have q1 := i1.2
  have e2 : σ 1 ((i : Int) + 2) = xs (i + 2) := (g (i + 2) (by omega)).1
  have i2 := (g (i + 2) (by omega)).2
  have p2 := i2.1; have q2 := i2.2
  have e3 : σ 1 ((i : Int) + 3) = xs (i + 3) := (g (i + 3) (by omega)).1
  have i3 := (g (i + 3) (by omega)).2
  have p3 := i3.1; have q3 := i3.2
  obtain ⟨σ1, σ2, k1, k2, ⟨z1, z2, t1, t2, gb⟩, L2⟩ := law_op (c145 S i1 i2 i3) (m267 S i1 i2 i3) hd h
  have f1 : σ1 1 ((i : Int) + 1) = xs (i + 1) := gb (i + 1) (by omega)
  have f2 : σ1 1 ((i : Int) + 2) = xs (i + 2) := gb (i + 2) (by omega)
  have f3 : σ1 1 ((i : Int) + 3) = xs (i + 3) := gb (i + 3) (by omega)
  refine ⟨σ2, _, ?_, L2⟩
  rw [sg_286_1437]
  (try simp (disch := omega) only [e1, e2, e3, wr_id2])
  repeat (first | ((with_reducible refine step_t ?_ ?_); with_reducible exact True.intro) | ((with_reducible refine step_t ?_ ?_); omega) | ((with_reducible refine step_f ?_ ?_); omega))
  refine step_c (k1) ?_
  try dsimp only
  (try simp (disch := omega) only [f1, f2, f3, wr_id2])
  repeat (first | ((with_reducible refine step_t ?_ ?_); with_reducible exact True.intro) | ((with_reducible refine step_t ?_ ?_); omega) | ((with_reducible refine step_f ?_ ?_); omega))
  refine step_c (k2) ?_
  try dsimp only
  refine step_t rfl ?_
  rfl
theorem lw_1480 {d : Nat} (hd : 1000 ≤ d) {σ : HP} {S : AS} {n i : Nat} {xs : Nat → Int} (h : LQI σ S n xs i) (hi : i + 6 ≤ n) : ∃ σ' S', rsP PG0 MX d 286 1480 [vR 1, vR 32, vR 101, vI i] [] σ = rsP PG0 MX d 286 18 [vR 1, vR 32, vR 101, vI ((i : Int) + 6)] [] σ' ∧ LQI σ' S' n xs (i + 6) := by
  obtain ⟨y1, a1, s1, s2, hn, g⟩ := h.gd
  have e1 : σ 1 ((i : Int) + 1) = xs (i + 1) := (g (i + 1) (by omega)).1
  have i1 := (g (i + 1) (by omega)).2
  have p1 := i1.1; have q1 := i1.2
  obtain ⟨σ1, σ2, k1, k2, ⟨z1, z2, t1, t2, gb⟩, L2⟩ := law_op (c148 S i1) (m269 S i1) hd h
  have f1 : σ1 1 ((i : Int) + 1) = xs (i + 1) := gb (i + 1) (by omega)
  refine ⟨σ2, _, ?_, L2⟩
  rw [sg_286_1480]
  (try simp (disch := omega) only [e1, wr_id2])
  repeat (first | ((with_reducible refine step_t ?_ ?_); with_reducible exact True.intro) | ((with_reducible refine step_t ?_ ?_); omega) | ((with_reducible refine step_f ?_ ?_); omega))
  refine step_c (k1) ?_
  try dsimp only
  (try simp (disch := omega) only [f1, wr_id2])
  repeat (first | ((with_reducible refine step_t ?_ ?_); with_reducible exact True.intro) | ((with_reducible refine step_t ?_ ?_); omega) | ((with_reducible refine step_f ?_ ?_); omega))
  refine step_c (k2) ?_
  try dsimp only
  refine step_t rfl ?_
  rfl
theorem lw_1503 {d : Nat} (hd : 1000 ≤ d) {σ : HP} {S : AS} {n i : Nat} {xs : Nat → Int} (h : LQI σ S n xs i) (hi : i + 6 ≤ n) : ∃ σ' S', rsP PG0 MX d 286 1503 [vR 1, vR 32, vR 101, vI i] [] σ = rsP PG0 MX d 286 18 [vR 1, vR 32, vR 101, vI ((i : Int) + 6)] [] σ' ∧ LQI σ' S' n xs (i + 6) := by
  obtain ⟨y1, a1, s1, s2, hn, g⟩ := h.gd
  have e1 : σ 1 ((i : Int) + 1) = xs (i + 1) := (g (i + 1) (by omega)).1
  have i1 := (g (i + 1) (by omega)).2
  have p1 := i1.1; have q1 := i1.2
  have e2 : σ 1 ((i : Int) + 2) = xs (i + 2) := (g (i + 2) (by omega)).1
  have i2 := (g (i + 2) (by omega)).2
  have p2 := i2.1; have q2 := i2.2
  have e3 : σ 1 ((i : Int) + 3) = xs (i + 3) := (g (i + 3) (by omega)).1
  have i3 := (g (i + 3) (by omega)).2
  have p3 := i3.1; have q3 := i3.2
  obtain ⟨σ1, σ2, k1, k2, ⟨z1, z2, t1, t2, gb⟩, L2⟩ := law_op (c150 S i1 i2 i3) (m270 S i1 i2 i3) hd h
  have f1 : σ1 1 ((i : Int) + 1) = xs (i + 1) := gb (i + 1) (by omega)
  have f2 : σ1 1 ((i : Int) + 2) = xs (i + 2) := gb (i + 2) (by omega)
  have f3 : σ1 1 ((i : Int) + 3) = xs (i + 3) := gb (i + 3) (by omega)
  refine ⟨σ2, _, ?_, L2⟩
  rw [sg_286_1503]
  (try simp (disch := omega) only [e1, e2, e3, wr_id2])
  repeat (first | ((with_reducible refine step_t ?_ ?_); with_reducible exact True.intro) | ((with_reducible refine step_t ?_ ?_); omega) | ((with_reducible refine step_f ?_ ?_); omega))
  refine step_c (k1) ?_
  try dsimp only
  (try simp (disch := omega) only [f1, f2, f3, wr_id2])
  repeat (first | ((with_reducible refine step_t ?_ ?_); with_reducible exact True.intro) | ((with_reducible refine step_t ?_ ?_); omega) | ((with_reducible refine step_f ?_ ?_); omega))
  refine step_c (k2) ?_
  try dsimp only
  refine step_t rfl ?_
  rfl
theorem lw_1546 {d : Nat} (hd : 1000 ≤ d) {σ : HP} {S : AS} {n i : Nat} {xs : Nat → Int} (h : LQI σ S n xs i) (hi : i + 6 ≤ n) : ∃ σ' S', rsP PG0 MX d 286 1546 [vR 1, vR 32, vR 101, vI i] [] σ = rsP PG0 MX d 286 18 [vR 1, vR 32, vR 101, vI ((i : Int) + 6)] [] σ' ∧ LQI σ' S' n xs (i + 6) := by
  obtain ⟨y1, a1, s1, s2, hn, g⟩ := h.gd
  have e1 : σ 1 ((i : Int) + 1) = xs (i + 1) := (g (i + 1) (by omega)).1
  have i1 := (g (i + 1) (by omega)).2
  have p1 := i1.1; have q1 := i1.2
  obtain ⟨σ1, σ2, k1, k2, ⟨z1, z2, t1, t2, gb⟩, L2⟩ := law_op (c152 S i1) (m271 S i1) hd h
  have f1 : σ1 1 ((i : Int) + 1) = xs (i + 1) := gb (i + 1) (by omega)
  refine ⟨σ2, _, ?_, L2⟩
  rw [sg_286_1546]
  (try simp (disch := omega) only [e1, wr_id2])
  repeat (first | ((with_reducible refine step_t ?_ ?_); with_reducible exact True.intro) | ((with_reducible refine step_t ?_ ?_); omega) | ((with_reducible refine step_f ?_ ?_); omega))
  refine step_c (k1) ?_
  try dsimp only
  (try simp (disch := omega) only [f1, wr_id2])
  repeat (first | ((with_reducible refine step_t ?_ ?_); with_reducible exact True.intro) | ((with_reducible refine step_t ?_ ?_); omega) | ((with_reducible refine step_f ?_ ?_); omega))
  refine step_c (k2) ?_
  try dsimp only
  refine step_t rfl ?_
  rfl
theorem lw_1569 {d : Nat} (hd : 1000 ≤ d) {σ : HP} {S : AS} {n i : Nat} {xs : Nat → Int} (h : LQI σ S n xs i) (hi : i + 6 ≤ n) : ∃ σ' S', rsP PG0 MX d 286 1569 [vR 1, vR 32, vR 101, vI i] [] σ = rsP PG0 MX d 286 18 [vR 1, vR 32, vR 101, vI ((i : Int) + 6)] [] σ' ∧ LQI σ' S' n xs (i + 6) := by
  obtain ⟨y1, a1, s1, s2, hn, g⟩ := h.gd
  have e1 : σ 1 ((i : Int) + 1) = xs (i + 1) := (g (i + 1) (by omega)).1
  have i1 := (g (i + 1) (by omega)).2
  have p1 := i1.1; have q1 := i1.2
  have e2 : σ 1 ((i : Int) + 2) = xs (i + 2) := (g (i + 2) (by omega)).1
  have i2 := (g (i + 2) (by omega)).2
  have p2 := i2.1; have q2 := i2.2
  obtain ⟨σ1, σ2, k1, k2, ⟨z1, z2, t1, t2, gb⟩, L2⟩ := law_op (c154 S i1 i2) (m272 S i1 i2) hd h
  have f1 : σ1 1 ((i : Int) + 1) = xs (i + 1) := gb (i + 1) (by omega)
  have f2 : σ1 1 ((i : Int) + 2) = xs (i + 2) := gb (i + 2) (by omega)
  refine ⟨σ2, _, ?_, L2⟩
  rw [sg_286_1569]
  (try simp (disch := omega) only [e1, e2, wr_id2])
  repeat (first | ((with_reducible refine step_t ?_ ?_); with_reducible exact True.intro) | ((with_reducible refine step_t ?_ ?_); omega) | ((with_reducible refine step_f ?_ ?_); omega))
  refine step_c (k1) ?_
  try dsimp only
  (try simp (disch := omega) only [f1, f2, wr_id2])
  repeat (first | ((with_reducible refine step_t ?_ ?_); with_reducible exact True.intro) | ((with_reducible refine step_t ?_ ?_); omega) | ((with_reducible refine step_f ?_ ?_); omega))
  refine step_c (k2) ?_
  try dsimp only
  refine step_t rfl ?_
  rfl
theorem lw_1602 {d : Nat} (hd : 1000 ≤ d) {σ : HP} {S : AS} {n i : Nat} {xs : Nat → Int} (h : LQI σ S n xs i) (hi : i + 6 ≤ n) : ∃ σ' S', rsP PG0 MX d 286 1602 [vR 1, vR 32, vR 101, vI i] [] σ = rsP PG0 MX d 286 18 [vR 1, vR 32, vR 101, vI ((i : Int) + 6)] [] σ' ∧ LQI σ' S' n xs (i + 6) := by
  obtain ⟨y1, a1, s1, s2, hn, g⟩ := h.gd
  have e1 : σ 1 ((i : Int) + 1) = xs (i + 1) := (g (i + 1) (by omega)).1
  have i1 := (g (i + 1) (by omega)).2
  have p1 := i1.1; have q1 := i1.2
  have e2 : σ 1 ((i : Int) + 2) = xs (i + 2) := (g (i + 2) (by omega)).1
  have i2 := (g (i + 2) (by omega)).2
  have p2 := i2.1; have q2 := i2.2
  have e3 : σ 1 ((i : Int) + 3) = xs (i + 3) := (g (i + 3) (by omega)).1
  have i3 := (g (i + 3) (by omega)).2
  have p3 := i3.1; have q3 := i3.2
  obtain ⟨σ1, σ2, k1, k2, ⟨z1, z2, t1, t2, gb⟩, L2⟩ := law_op (c155 S i1 i2 i3) (m274 S i1 i2 i3) hd h
  have f1 : σ1 1 ((i : Int) + 1) = xs (i + 1) := gb (i + 1) (by omega)
  have f2 : σ1 1 ((i : Int) + 2) = xs (i + 2) := gb (i + 2) (by omega)
  have f3 : σ1 1 ((i : Int) + 3) = xs (i + 3) := gb (i + 3) (by omega)
  refine ⟨σ2, _, ?_, L2⟩
  rw [sg_286_1602]
  (try simp (disch := omega) only [e1, e2, e3, wr_id2])
  repeat (first | ((with_reducible refine step_t ?_ ?_); with_reducible exact True.intro) | ((with_reducible refine step_t ?_ ?_); omega) | ((with_reducible refine step_f ?_ ?_); omega))
  refine step_c (k1) ?_
  try dsimp only
  (try simp (disch := omega) only [f1, f2, f3, wr_id2])
  repeat (first | ((with_reducible refine step_t ?_ ?_); with_reducible exact True.intro) | ((with_reducible refine step_t ?_ ?_); omega) | ((with_reducible refine step_f ?_ ?_); omega))
  refine step_c (k2) ?_
  try dsimp only
  refine step_t rfl ?_
  rfl
theorem lw_1645 {d : Nat} (hd : 1000 ≤ d) {σ : HP} {S : AS} {n i : Nat} {xs : Nat → Int} (h : LQI σ S n xs i) (hi : i + 6 ≤ n) : ∃ σ' S', rsP PG0 MX d 286 1645 [vR 1, vR 32, vR 101, vI i] [] σ = rsP PG0 MX d 286 18 [vR 1, vR 32, vR 101, vI ((i : Int) + 6)] [] σ' ∧ LQI σ' S' n xs (i + 6) := by
  obtain ⟨y1, a1, s1, s2, hn, g⟩ := h.gd
  have e1 : σ 1 ((i : Int) + 1) = xs (i + 1) := (g (i + 1) (by omega)).1
  have i1 := (g (i + 1) (by omega)).2
  have p1 := i1.1; have q1 := i1.2
  obtain ⟨σ1, σ2, k1, k2, ⟨z1, z2, t1, t2, gb⟩, L2⟩ := law_op (c157 S i1) (m275 S i1) hd h
  have f1 : σ1 1 ((i : Int) + 1) = xs (i + 1) := gb (i + 1) (by omega)
  refine ⟨σ2, _, ?_, L2⟩
  rw [sg_286_1645]
  (try simp (disch := omega) only [e1, wr_id2])
  repeat (first | ((with_reducible refine step_t ?_ ?_); with_reducible exact True.intro) | ((with_reducible refine step_t ?_ ?_); omega) | ((with_reducible refine step_f ?_ ?_); omega))
  refine step_c (k1) ?_
  try dsimp only
  (try simp (disch := omega) only [f1, wr_id2])
  repeat (first | ((with_reducible refine step_t ?_ ?_); with_reducible exact True.intro) | ((with_reducible refine step_t ?_ ?_); omega) | ((with_reducible refine step_f ?_ ?_); omega))
  refine step_c (k2) ?_
  try dsimp only
  refine step_t rfl ?_
  rfl
theorem lw_1668 {d : Nat} (hd : 1000 ≤ d) {σ : HP} {S : AS} {n i : Nat} {xs : Nat → Int} (h : LQI σ S n xs i) (hi : i + 6 ≤ n) : ∃ σ' S', rsP PG0 MX d 286 1668 [vR 1, vR 32, vR 101, vI i] [] σ = rsP PG0 MX d 286 18 [vR 1, vR 32, vR 101, vI ((i : Int) + 6)] [] σ' ∧ LQI σ' S' n xs (i + 6) := by
  obtain ⟨y1, a1, s1, s2, hn, g⟩ := h.gd
  have e1 : σ 1 ((i : Int) + 1) = xs (i + 1) := (g (i + 1) (by omega)).1
  have i1 := (g (i + 1) (by omega)).2
  have p1 := i1.1; have q1 := i1.2
  have e2 : σ 1 ((i : Int) + 2) = xs (i + 2) := (g (i + 2) (by omega)).1
  have i2 := (g (i + 2) (by omega)).2
  have p2 := i2.1; have q2 := i2.2
  obtain ⟨σ1, σ2, k1, k2, ⟨z1, z2, t1, t2, gb⟩, L2⟩ := law_op (c158 S i1 i2) (m276 S i1 i2) hd h
  have f1 : σ1 1 ((i : Int) + 1) = xs (i + 1) := gb (i + 1) (by omega)
  have f2 : σ1 1 ((i : Int) + 2) = xs (i + 2) := gb (i + 2) (by omega)
  refine ⟨σ2, _, ?_, L2⟩
  rw [sg_286_1668]
  (try simp (disch := omega) only [e1, e2, wr_id2])
  repeat (first | ((with_reducible refine step_t ?_ ?_); with_reducible exact True.intro) | ((with_reducible refine step_t ?_ ?_); omega) | ((with_reducible refine step_f ?_ ?_); omega))
  refine step_c (k1) ?_
  try dsimp only
  (try simp (disch := omega) only [f1, f2, wr_id2])
  repeat (first | ((with_reducible refine step_t ?_ ?_); with_reducible exact True.intro) | ((with_reducible refine step_t ?_ ?_); omega) | ((with_reducible refine step_f ?_ ?_); omega))
  refine step_c (k2) ?_
  try dsimp only
  refine step_t rfl ?_
  rfl
theorem lw_1701 {d : Nat} (hd : 1000 ≤ d) {σ : HP} {S : AS} {n i : Nat} {xs : Nat → Int} (h : LQI σ S n xs i) (hi : i + 6 ≤ n) : ∃ σ' S', rsP PG0 MX d 286 1701 [vR 1, vR 32, vR 101, vI i] [] σ = rsP PG0 MX d 286 18 [vR 1, vR 32, vR 101, vI ((i : Int) + 6)] [] σ' ∧ LQI σ' S' n xs (i + 6) := by
  obtain ⟨y1, a1, s1, s2, hn, g⟩ := h.gd
  have e1 : σ 1 ((i : Int) + 1) = xs (i + 1) := (g (i + 1) (by omega)).1
  have i1 := (g (i + 1) (by omega)).2
  have p1 := i1.1; have q1 := i1.2
  have e2 : σ 1 ((i : Int) + 2) = xs (i + 2) := (g (i + 2) (by omega)).1
  have i2 := (g (i + 2) (by omega)).2
  have p2 := i2.1; have q2 := i2.2
  obtain ⟨σ1, σ2, k1, k2, ⟨z1, z2, t1, t2, gb⟩, L2⟩ := law_op (c159 S i1 i2) (m277 S i1 i2) hd h
  have f1 : σ1 1 ((i : Int) + 1) = xs (i + 1) := gb (i + 1) (by omega)
  have f2 : σ1 1 ((i : Int) + 2) = xs (i + 2) := gb (i + 2) (by omega)
  refine ⟨σ2, _, ?_, L2⟩
  rw [sg_286_1701]
  (try simp (disch := omega) only [e1, e2, wr_id2])
  repeat (first | ((with_reducible refine step_t ?_ ?_); with_reducible exact True.intro) | ((with_reducible refine step_t ?_ ?_); omega) | ((with_reducible refine step_f ?_ ?_); omega))
  refine step_c (k1) ?_
  try dsimp only
  (try simp (disch := omega) only [f1, f2, wr_id2])
  repeat (first | ((with_reducible refine step_t ?_ ?_); with_reducible exact True.intro) | ((with_reducible refine step_t ?_ ?_); omega) | ((with_reducible refine step_f ?_ ?_); omega))
  refine step_c (k2) ?_
  try dsimp only
  refine step_t rfl ?_
  rfl
theorem lw_1734 {d : Nat} (hd : 1000 ≤ d) {σ : HP} {S : AS} {n i : Nat} {xs : Nat → Int} (h : LQI σ S n xs i) (hi : i + 6 ≤ n) : ∃ σ' S', rsP PG0 MX d 286 1734 [vR 1, vR 32, vR 101, vI i] [] σ = rsP PG0 MX d 286 18 [vR 1, vR 32, vR 101, vI ((i : Int) + 6)] [] σ' ∧ LQI σ' S' n xs (i + 6) := by
  obtain ⟨y1, a1, s1, s2, hn, g⟩ := h.gd
  have e1 : σ 1 ((i : Int) + 1) = xs (i + 1) := (g (i + 1) (by omega)).1
  have i1 := (g (i + 1) (by omega)).2
  have p1 := i1.1; have q1 := i1.2
  have e2 : σ 1 ((i : Int) + 2) = xs (i + 2) := (g (i + 2) (by omega)).1
  have i2 := (g (i + 2) (by omega)).2
  have p2 := i2.1; have q2 := i2.2
  obtain ⟨σ1, σ2, k1, k2, ⟨z1, z2, t1, t2, gb⟩, L2⟩ := law_op (c160 S i1 i2) (m278 S i1 i2) hd h
  have f1 : σ1 1 ((i : Int) + 1) = xs (i + 1) := gb (i + 1) (by omega)
  have f2 : σ1 1 ((i : Int) + 2) = xs (i + 2) := gb (i + 2) (by omega)
  refine ⟨σ2, _, ?_, L2⟩
  rw [sg_286_1734]
  (try simp (disch := omega) only [e1, e2, wr_id2])
  repeat (first | ((with_reducible refine step_t ?_ ?_); with_reducible exact True.intro) | ((with_reducible refine step_t ?_ ?_); omega) | ((with_reducible refine step_f ?_ ?_); omega))
  refine step_c (k1) ?_
  try dsimp only
  (try simp (disch := omega) only [f1, f2, wr_id2])
  repeat (first | ((with_reducible refine step_t ?_ ?_); with_reducible exact True.intro) | ((with_reducible refine step_t ?_ ?_); omega) | ((with_reducible refine step_f ?_ ?_); omega))
  refine step_c (k2) ?_
  try dsimp only
  refine step_t rfl ?_
  rfl
theorem lw_1767 {d : Nat} (hd : 1000 ≤ d) {σ : HP} {S : AS} {n i : Nat} {xs : Nat → Int} (h : LQI σ S n xs i) (hi : i + 6 ≤ n) : ∃ σ' S', rsP PG0 MX d 286 1767 [vR 1, vR 32, vR 101, vI i] [] σ = rsP PG0 MX d 286 18 [vR 1, vR 32, vR 101, vI ((i : Int) + 6)] [] σ' ∧ LQI σ' S' n xs (i + 6) := by
  obtain ⟨y1, a1, s1, s2, hn, g⟩ := h.gd
  have e1 : σ 1 ((i : Int) + 1) = xs (i + 1) := (g (i + 1) (by omega)).1
  have i1 := (g (i + 1) (by omega)).2
  have p1 := i1.1; have q1 := i1.2
  have e2 : σ 1 ((i : Int) + 2) = xs (i + 2) := (g (i + 2) (by omega)).1
  have i2 := (g (i + 2) (by omega)).2
  have p2 := i2.1; have q2 := i2.2
  obtain ⟨σ1, σ2, k1, k2, ⟨z1, z2, t1, t2, gb⟩, L2⟩ := law_op (c161 S i1 i2) (m279 S i1 i2) hd h
  have f1 : σ1 1 ((i : Int) + 1) = xs (i + 1) := gb (i + 1) (by omega)
  have f2 : σ1 1 ((i : Int) + 2) = xs (i + 2) := gb (i + 2) (by omega)
  refine ⟨σ2, _, ?_, L2⟩
  rw [sg_286_1767]
  (try simp (disch := omega) only [e1, e2, wr_id2])
  repeat (first | ((with_reducible refine step_t ?_ ?_); with_reducible exact True.intro) | ((with_reducible refine step_t ?_ ?_); omega) | ((with_reducible refine step_f ?_ ?_); omega))
  refine step_c (k1) ?_
  try dsimp only
  (try simp (disch := omega) only [f1, f2, wr_id2])
  repeat (first | ((with_reducible refine step_t ?_ ?_); with_reducible exact True.intro) | ((with_reducible refine step_t ?_ ?_); omega) | ((with_reducible refine step_f ?_ ?_); omega))
  refine step_c (k2) ?_
  try dsimp only
  refine step_t rfl ?_
  rfl
theorem lw_1800 {d : Nat} (hd : 1000 ≤ d) {σ : HP} {S : AS} {n i : Nat} {xs : Nat → Int} (h : LQI σ S n xs i) (hi : i + 6 ≤ n) : ∃ σ' S', rsP PG0 MX d 286 1800 [vR 1, vR 32, vR 101, vI i] [] σ = rsP PG0 MX d 286 18 [vR 1, vR 32, vR 101, vI ((i : Int) + 6)] [] σ' ∧ LQI σ' S' n xs (i + 6) := by
  obtain ⟨y1, a1, s1, s2, hn, g⟩ := h.gd
  have e1 : σ 1 ((i : Int) + 1) = xs (i + 1) := (g (i + 1) (by omega)).1
  have i1 := (g (i + 1) (by omega)).2
  have p1 := i1.1; have q1 := i1.2
  obtain ⟨σ1, σ2, k1, k2, ⟨z1, z2, t1, t2, gb⟩, L2⟩ := law_op (c164 S i1) (m177 S i1) hd h
  have f1 : σ1 1 ((i : Int) + 1) = xs (i + 1) := gb (i + 1) (by omega)
  refine ⟨σ2, _, ?_, L2⟩
  rw [sg_286_1800]
  (try simp (disch := omega) only [e1, wr_id2])
  repeat (first | ((with_reducible refine step_t ?_ ?_); with_reducible exact True.intro) | ((with_reducible refine step_t ?_ ?_); omega) | ((with_reducible refine step_f ?_ ?_); omega))
  refine step_c (k1) ?_
  try dsimp only
  (try simp (disch := omega) only [f1, wr_id2])
  repeat (first | ((with_reducible refine step_t ?_ ?_); with_reducible exact True.intro) | ((with_reducible refine step_t ?_ ?_); omega) | ((with_reducible refine step_f ?_ ?_); omega))
  refine step_c (k2) ?_
  try dsimp only
  refine step_t rfl ?_
  rfl
theorem lw_1823 {d : Nat} (hd : 1000 ≤ d) {σ : HP} {S : AS} {n i : Nat} {xs : Nat → Int} (h : LQI σ S n xs i) (hi : i + 6 ≤ n) : ∃ σ' S', rsP PG0 MX d 286 1823 [vR 1, vR 32, vR 101, vI i] [] σ = rsP PG0 MX d 286 18 [vR 1, vR 32, vR 101, vI ((i : Int) + 6)] [] σ' ∧ LQI σ' S' n xs (i + 6) := by
  obtain ⟨y1, a1, s1, s2, hn, g⟩ := h.gd
  obtain ⟨σ1, σ2, k1, k2, ⟨z1, z2, t1, t2, gb⟩, L2⟩ := law_op (c165 S ) (m176 S ) hd h
  refine ⟨σ2, _, ?_, L2⟩
  rw [sg_286_1823]
  (try simp (disch := omega) only [wr_id2])
  repeat (first | ((with_reducible refine step_t ?_ ?_); with_reducible exact True.intro) | ((with_reducible refine step_t ?_ ?_); omega) | ((with_reducible refine step_f ?_ ?_); omega))
  refine step_c (k1) ?_
  try dsimp only
  (try simp (disch := omega) only [wr_id2])
  repeat (first | ((with_reducible refine step_t ?_ ?_); with_reducible exact True.intro) | ((with_reducible refine step_t ?_ ?_); omega) | ((with_reducible refine step_f ?_ ?_); omega))
  refine step_c (k2) ?_
  try dsimp only
  refine step_t rfl ?_
  rfl
theorem lw_1836 {d : Nat} (hd : 1000 ≤ d) {σ : HP} {S : AS} {n i : Nat} {xs : Nat → Int} (h : LQI σ S n xs i) (hi : i + 6 ≤ n) : ∃ σ' S', rsP PG0 MX d 286 1836 [vR 1, vR 32, vR 101, vI i] [] σ = rsP PG0 MX d 286 18 [vR 1, vR 32, vR 101, vI ((i : Int) + 6)] [] σ' ∧ LQI σ' S' n xs (i + 6) := by
  obtain ⟨y1, a1, s1, s2, hn, g⟩ := h.gd
  have e1 : σ 1 ((i : Int) + 1) = xs (i + 1) := (g (i + 1) (by omega)).1
  have i1 := (g (i + 1) (by omega)).2
  have p1 := i1.1; have q1 := i1.2
  have e2 : σ 1 ((i : Int) + 2) = xs (i + 2) := (g (i + 2) (by omega)).1
  have i2 := (g (i + 2) (by omega)).2
  have p2 := i2.1; have q2 := i2.2
  obtain ⟨σ1, σ2, k1, k2, ⟨z1, z2, t1, t2, gb⟩, L2⟩ := law_op (c169 S i1 i2) (m282 S i1 i2) hd h
  have f1 : σ1 1 ((i : Int) + 1) = xs (i + 1) := gb (i + 1) (by omega)
  have f2 : σ1 1 ((i : Int) + 2) = xs (i + 2) := gb (i + 2) (by omega)
  refine ⟨σ2, _, ?_, L2⟩
  rw [sg_286_1836]
  (try simp (disch := omega) only [e1, e2, wr_id2])
  repeat (first | ((with_reducible refine step_t ?_ ?_); with_reducible exact True.intro) | ((with_reducible refine step_t ?_ ?_); omega) | ((with_reducible refine step_f ?_ ?_); omega))
  refine step_c (k1) ?_
  try dsimp only
  (try simp (disch := omega) only [f1, f2, wr_id2])
  repeat (first | ((with_reducible refine step_t ?_ ?_); with_reducible exact True.intro) | ((with_reducible refine step_t ?_ ?_); omega) | ((with_reducible refine step_f ?_ ?_); omega))
  refine step_c (k2) ?_
  try dsimp only
  refine step_t rfl ?_
  rfl
theorem lw_1869 {d : Nat} (hd : 1000 ≤ d) {σ : HP} {S : AS} {n i : Nat} {xs : Nat → Int} (h : LQI σ S n xs i) (hi : i + 6 ≤ n) : ∃ σ' S', rsP PG0 MX d 286 1869 [vR 1, vR 32, vR 101, vI i] [] σ = rsP PG0 MX d 286 18 [vR 1, vR 32, vR 101, vI ((i : Int) + 6)] [] σ' ∧ LQI σ' S' n xs (i + 6) := by
  obtain ⟨y1, a1, s1, s2, hn, g⟩ := h.gd
  have e1 : σ 1 ((i : Int) + 1) = xs (i + 1) := (g (i + 1) (by omega)).1
  have i1 := (g (i + 1) (by omega)).2
  have p1 := i1.1; have q1 := i1.2
  obtain ⟨σ1, σ2, k1, k2, ⟨z1, z2, t1, t2, gb⟩, L2⟩ := law_op (c174 S i1) (m285 S i1) hd h
  have f1 : σ1 1 ((i : Int) + 1) = xs (i + 1) := gb (i + 1) (by omega)
  refine ⟨σ2, _, ?_, L2⟩
  rw [sg_286_1869]
  (try simp (disch := omega) only [e1, wr_id2])
  repeat (first | ((with_reducible refine step_t ?_ ?_); with_reducible exact True.intro) | ((with_reducible refine step_t ?_ ?_); omega) | ((with_reducible refine step_f ?_ ?_); omega))
  refine step_c (k1) ?_
  try dsimp only
  (try simp (disch := omega) only [f1, wr_id2])
  repeat (first | ((with_reducible refine step_t ?_ ?_); with_reducible exact True.intro) | ((with_reducible refine step_t ?_ ?_); omega) | ((with_reducible refine step_f ?_ ?_); omega))
  refine step_c (k2) ?_
  try dsimp only
  refine step_t rfl ?_
  rfl
