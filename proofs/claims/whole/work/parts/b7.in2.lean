/-! THE CONSTRUCTORS: all of the class -/
def cT4 (n k : Int) (T : TB) : TB := (n, 1, 0) :: (n, 0, n + 1) :: (n + 1, -1, 21) :: (n + 1, -2, k) :: T
theorem s4 {d : Nat} (h : 7 ≤ d) {σ0 σ : HP} {n m k : Int} {T : TB} (hT : TR σ0 σ (n + 1) m T) (hn : 32 ≤ n) (hc : lkT T n (-1) = 1) (hk : 0 ≤ k ∧ k ≤ 100000) : ∃ σ', clR PG0 MX d 4 [vR n, vI k] σ = some (0, σ') ∧ TR σ0 σ' (n + 2) (m + k) (cT4 n k T) := by
  obtain ⟨d, rfl⟩ := ob1 (show 1 ≤ d by omega)
  have A1 := hT.nA 21 k (n' := n + 2) (m' := m + k) (by omega) rfl
  have a1 := A1.at (a := n) (j := -1) (v := 1) (by omega) (by omega) (by (repeat rw [lk_n (by omega)]); exact hc)
  have A2 := A1.up (a := n) 0 (n + 1) (by omega) (by omega)
  have a2 := A2.at (a := n) (j := -1) (v := 1) (by omega) (by omega) (by (repeat rw [lk_n (by omega)]); exact hc)
  have A3 := A2.up (a := n) 1 0 (by omega) (by omega)
  have em : (if wr k < wr 0 then (0 : Int) else k) = k := by
    rw [wr_id2 (by omega), wr_0, if_neg (by omega)]
  refine ⟨_, ?_, A3⟩
  rw [ce_4, sg_4_0]
  repeat (first | ((with_reducible refine step_t ?_ ?_); with_reducible exact True.intro) | ((with_reducible refine step_t ?_ ?_); omega) | ((with_reducible refine step_f ?_ ?_); omega))
  refine step_c (p_obj (by omega) σ _) ?_
  try dsimp only
  refine step_c (p_max (by omega) σ _ _) ?_
  try dsimp only
  rw [em]
  (try simp (disch := omega) only [and_true, hT.1, A1.1, a1, A2.1, a2, wr_id2])
  repeat (first | ((with_reducible refine step_t ?_ ?_); with_reducible exact True.intro) | ((with_reducible refine step_t ?_ ?_); omega) | ((with_reducible refine step_f ?_ ?_); omega))
  rfl
def cT3 (T : TB) : TB := (79, 5, -1) :: (79, 4, 0) :: (79, 0, 80) :: cT4 80 400 ((80, -1, 1) :: T)
theorem s3 {d : Nat} (h : 8 ≤ d) {σ0 σ : HP} {m : Int} {T : TB} (hT : TR σ0 σ 80 m T) (hc : lkT T 79 (-1) = 5) : ∃ σ', clR PG0 MX d 3 [vR 79] σ = some (0, σ') ∧ TR σ0 σ' 82 (m + 402) (cT3 T) := by
  obtain ⟨d, rfl⟩ := ob1 (show 1 ≤ d by omega)
  have A1 := hT.nO 1 2 (n' := 81) (m' := m + 2) (by omega) rfl
  obtain ⟨σ1, k1, A2⟩ := s4 (d := d) (by omega) (n := 80) (k := 400) A1 (by omega) (lk_s _ _ _ _) (by omega)
  have A2 : TR σ0 σ1 82 (m + 402) (cT4 80 400 ((80, -1, 1) :: T)) := by
    rw [show m + 402 = m + 2 + 400 by omega]
    exact A2
  have e2 : lkT (cT4 80 400 ((80, -1, 1) :: T)) 79 (-1) = 5 := by
    unfold cT4
    (repeat rw [lk_n (by omega)]); exact hc
  have a2 := A2.at (a := 79) (j := -1) (v := 5) (by omega) (by omega) e2
  have A3 := A2.up (a := 79) 0 80 (by omega) (by omega)
  have a3 := A3.at (a := 79) (j := -1) (v := 5) (by omega) (by omega) (by (repeat rw [lk_n (by omega)]); exact e2)
  have A4 := A3.up (a := 79) 4 0 (by omega) (by omega)
  have a4 := A4.at (a := 79) (j := -1) (v := 5) (by omega) (by omega) (by (repeat rw [lk_n (by omega)]); exact e2)
  have A5 := A4.up (a := 79) 5 (-1) (by omega) (by omega)
  refine ⟨_, ?_, A5⟩
  rw [ce_3, sg_3_0]
  repeat (first | ((with_reducible refine step_t ?_ ?_); with_reducible exact True.intro) | ((with_reducible refine step_t ?_ ?_); omega) | ((with_reducible refine step_f ?_ ?_); omega))
  refine step_c (p_obj (by omega) σ _) ?_
  try dsimp only
  (try simp (disch := omega) only [hT.1, wr_id2])
  repeat (first | ((with_reducible refine step_t ?_ ?_); with_reducible exact True.intro) | ((with_reducible refine step_t ?_ ?_); omega) | ((with_reducible refine step_f ?_ ?_); omega))
  refine step_c (k1) ?_
  try dsimp only
  (try simp (disch := omega) only [A2.1, a2, A3.1, a3, A4.1, a4, wr_id2])
  repeat (first | ((with_reducible refine step_t ?_ ?_); with_reducible exact True.intro) | ((with_reducible refine step_t ?_ ?_); omega) | ((with_reducible refine step_f ?_ ?_); omega))
  rfl
/-- History -/
def hsT (T : TB) : Nat → TB
  | 0 => (46, 0, 47) :: (47, -1, 23) :: (47, -2, 10) :: T
  | i + 1 => (47, (i : Int), 48 + 3 * (i : Int)) :: cT1 (48 + 3 * (i : Int)) ((48 + 3 * (i : Int), -1, 0) :: hsT T i)
theorem hs_at {T : TB} (hc : lkT T 46 (-1) = 3) : ∀ i, lkT (hsT T i) 46 (-1) = 3 ∧ lkT (hsT T i) 46 0 = 47 ∧ lkT (hsT T i) 47 (-1) = 23 ∧ lkT (hsT T i) 47 (-2) = 10 := by
  intro i
  induction i with
  | zero =>
    unfold hsT
    refine ⟨by (repeat rw [lk_n (by omega)]); exact hc, lk_s _ _ _ _, by rw [lk_n (by omega)]; exact lk_s _ _ _ _, by rw [lk_n (by omega), lk_n (by omega)]; exact lk_s _ _ _ _⟩
  | succ i ih =>
    obtain ⟨h1, h2, h3, h4⟩ := ih
    unfold hsT cT1
    refine ⟨by (repeat rw [lk_n (by omega)]); exact h1, by (repeat rw [lk_n (by omega)]); exact h2, by (repeat rw [lk_n (by omega)]); exact h3, by (repeat rw [lk_n (by omega)]); exact h4⟩
def cT2 (T : TB) : TB := (46, 3, 0) :: (46, 2, 0) :: (46, 1, 78) :: (78, -1, 20) :: (78, -2, 10) :: hsT T 10
theorem s2l {d : Nat} (h : 7 ≤ d) {σ0 : HP} {M : Int} {T : TB} (hc : lkT T 46 (-1) = 3) : ∀ (m i : Nat) (σ : HP), i + m = 10 → TR σ0 σ (48 + 3 * (i : Int)) (M + 520 * (i : Int)) (hsT T i) → ∃ σ', rsP PG0 MX d 2 15 [vR 46, vI i] [] σ = some (0, σ') ∧ TR σ0 σ' 79 (M + 5210) (cT2 T) := by
  intro m
  induction m with
  | zero =>
    intro i σ hi hT
    have ei : i = 10 := by omega
    subst ei
    obtain ⟨h1, h2, h3, h4⟩ := hs_at hc 10
    have hT : TR σ0 σ 78 (M + 5200) (hsT T 10) := hT
    have a0 := hT.at (a := 46) (j := -1) (v := 3) (by omega) (by omega) h1
    have A1 := hT.nA 20 10 (n' := 79) (m' := M + 5210) (by omega) (by omega)
    have a1 := A1.at (a := 46) (j := -1) (v := 3) (by omega) (by omega) (by (repeat rw [lk_n (by omega)]); exact h1)
    have A2 := A1.up (a := 46) 1 78 (by omega) (by omega)
    have a2 := A2.at (a := 46) (j := -1) (v := 3) (by omega) (by omega) (by (repeat rw [lk_n (by omega)]); exact h1)
    have A3 := A2.up (a := 46) 2 0 (by omega) (by omega)
    have a3 := A3.at (a := 46) (j := -1) (v := 3) (by omega) (by omega) (by (repeat rw [lk_n (by omega)]); exact h1)
    have A4 := A3.up (a := 46) 3 0 (by omega) (by omega)
    refine ⟨_, ?_, A4⟩
    rw [sg_2_15]
    (try simp (disch := omega) only [hT.1, A1.1, a1, A2.1, a2, A3.1, a3, wr_id2])
    repeat (first | ((with_reducible refine step_t ?_ ?_); with_reducible exact True.intro) | ((with_reducible refine step_t ?_ ?_); omega) | ((with_reducible refine step_f ?_ ?_); omega))
    rfl
  | succ m ih =>
    intro i σ hi hT
    obtain ⟨h1, h2, h3, h4⟩ := hs_at hc i
    have a0 := hT.at (a := 46) (j := -1) (v := 3) (by omega) (by omega) h1
    have a1 := hT.at (a := 46) (j := 0) (v := 47) (by omega) (by omega) h2
    have A1 := hT.nO 0 7 (n' := 48 + 3 * (i : Int) + 1) (m' := M + 520 * (i : Int) + 7) rfl rfl
    obtain ⟨σ1, k1, A2⟩ := s1 (d := d) (by omega) (n := 48 + 3 * (i : Int)) A1 (by omega) (lk_s _ _ _ _)
    have g3 : lkT (cT1 (48 + 3 * (i : Int)) ((48 + 3 * (i : Int), -1, 0) :: hsT T i)) 47 (-1) = 23 := by
      unfold cT1
      (repeat rw [lk_n (by omega)]); exact h3
    have g4 : lkT (cT1 (48 + 3 * (i : Int)) ((48 + 3 * (i : Int), -1, 0) :: hsT T i)) 47 (-2) = 10 := by
      unfold cT1
      (repeat rw [lk_n (by omega)]); exact h4
    have g5 : lkT (cT1 (48 + 3 * (i : Int)) ((48 + 3 * (i : Int), -1, 0) :: hsT T i)) (48 + 3 * (i : Int)) (-1) = 0 := by
      unfold cT1
      rw [lk_n (by omega), lk_n (by omega), lk_n (by omega), lk_n (by omega), lk_n (by omega), lk_n (by omega), lk_n (by omega), lk_s]
    have b3 := A2.at (a := 47) (j := -1) (v := 23) (by omega) (by omega) g3
    have b4 := A2.at (a := 47) (j := -2) (v := 10) (by omega) (by omega) g4
    have b5 := A2.at (a := 48 + 3 * (i : Int)) (j := -1) (v := 0) (by omega) (by omega) g5
    have A3 := A2.up (a := 47) (i : Int) (48 + 3 * (i : Int)) (by omega) (by omega)
    have b0 := A2.1
    obtain ⟨σ', j1, j2⟩ := ih (i + 1) _ (by omega) (show TR σ0 _ (48 + 3 * ((i + 1 : Nat) : Int)) (M + 520 * ((i + 1 : Nat) : Int)) (hsT T (i + 1)) by
      rw [show 48 + 3 * ((i + 1 : Nat) : Int) = 48 + 3 * (i : Int) + 3 by omega, show M + 520 * ((i + 1 : Nat) : Int) = M + 520 * (i : Int) + 7 + 513 by omega]
      exact A3)
    refine ⟨σ', ?_, j2⟩
    rw [sg_2_15]
    (try simp (disch := omega) only [hT.1, wr_id2])
    repeat (first | ((with_reducible refine step_t ?_ ?_); with_reducible exact True.intro) | ((with_reducible refine step_t ?_ ?_); omega) | ((with_reducible refine step_f ?_ ?_); omega))
    refine step_c (k1) ?_
    try dsimp only
    (try simp (disch := omega) only [a1, wr_id2])
    repeat (first | ((with_reducible refine step_t ?_ ?_); with_reducible exact True.intro) | ((with_reducible refine step_t ?_ ?_); omega) | ((with_reducible refine step_f ?_ ?_); omega))
    exact j1
theorem s2 {d : Nat} (h : 8 ≤ d) {σ0 σ : HP} {m : Int} {T : TB} (hT : TR σ0 σ 47 m T) (hc : lkT T 46 (-1) = 3) : ∃ σ', clR PG0 MX d 2 [vR 46] σ = some (0, σ') ∧ TR σ0 σ' 79 (m + 5220) (cT2 T) := by
  obtain ⟨d, rfl⟩ := ob1 (show 1 ≤ d by omega)
  have a0 := hT.at (a := 46) (j := -1) (v := 3) (by omega) (by omega) hc
  have A1 := hT.nA 23 10 (n' := 48) (m' := m + 10) (by omega) (by omega)
  have a1 := A1.at (a := 46) (j := -1) (v := 3) (by omega) (by omega) (by (repeat rw [lk_n (by omega)]); exact hc)
  have A2 := A1.up (a := 46) 0 47 (by omega) (by omega)
  obtain ⟨σ', j1, j2⟩ := s2l (d := d) (by omega) (M := m + 10) hc 10 0 _ rfl (show TR σ0 _ (48 + 3 * ((0 : Nat) : Int)) (m + 10 + 520 * ((0 : Nat) : Int)) (hsT T 0) by
    rw [show m + 10 + 520 * ((0 : Nat) : Int) = m + 10 by omega]
    exact A2)
  refine ⟨σ', ?_, by rw [show m + 5220 = m + 10 + 5210 by omega]; exact j2⟩
  rw [ce_2, sg_2_0]
  repeat (first | ((with_reducible refine step_t ?_ ?_); with_reducible exact True.intro) | ((with_reducible refine step_t ?_ ?_); omega) | ((with_reducible refine step_f ?_ ?_); omega))
  refine step_c (p_obj (by omega) σ _) ?_
  try dsimp only
  (try simp (disch := omega) only [hT.1, A1.1, a1, wr_id2])
  repeat (first | ((with_reducible refine step_t ?_ ?_); with_reducible exact True.intro) | ((with_reducible refine step_t ?_ ?_); omega) | ((with_reducible refine step_f ?_ ?_); omega))
  exact j1
/-- the class's own -/
def slT : Nat → TB
  | 0 => (32, 0, 33) :: (33, -1, 23) :: (33, -2, 3) :: (32, -1, 8) :: []
  | i + 1 => (33, (i : Int), 34 + 3 * (i : Int)) :: cT1 (34 + 3 * (i : Int)) ((34 + 3 * (i : Int), -1, 0) :: slT i)
theorem sl_at : ∀ i, lkT (slT i) 32 (-1) = 8 ∧ lkT (slT i) 32 0 = 33 ∧ lkT (slT i) 33 (-1) = 23 ∧ lkT (slT i) 33 (-2) = 3 := by
  intro i
  induction i with
  | zero => decide +kernel
  | succ i ih =>
    obtain ⟨h1, h2, h3, h4⟩ := ih
    unfold slT cT1
    refine ⟨by (repeat rw [lk_n (by omega)]); exact h1, by (repeat rw [lk_n (by omega)]); exact h2, by (repeat rw [lk_n (by omega)]); exact h3, by (repeat rw [lk_n (by omega)]); exact h4⟩
theorem s0l {d : Nat} (h : 7 ≤ d) {σ0 : HP} {M : Int} : ∀ (m i : Nat) (σ : HP), i + m = 3 → TR σ0 σ (34 + 3 * (i : Int)) (M + 520 * (i : Int)) (slT i) → ∃ σ', rsP PG0 MX d 0 14 [vR 32, vI i] [] σ = rsP PG0 MX d 0 38 [vR 32, vI 3] [] σ' ∧ TR σ0 σ' 43 (M + 1560) (slT 3) := by
  intro m
  induction m with
  | zero =>
    intro i σ hi hT
    have ei : i = 3 := by omega
    subst ei
    refine ⟨σ, ?_, hT⟩
    rw [sg_0_14]
    (try simp (disch := omega) only [wr_id2])
    repeat (first | ((with_reducible refine step_t ?_ ?_); with_reducible exact True.intro) | ((with_reducible refine step_t ?_ ?_); omega) | ((with_reducible refine step_f ?_ ?_); omega))
    rfl
  | succ m ih =>
    intro i σ hi hT
    obtain ⟨h1, h2, h3, h4⟩ := sl_at i
    have a0 := hT.at (a := 32) (j := -1) (v := 8) (by omega) (by omega) h1
    have a1 := hT.at (a := 32) (j := 0) (v := 33) (by omega) (by omega) h2
    have A1 := hT.nO 0 7 (n' := 34 + 3 * (i : Int) + 1) (m' := M + 520 * (i : Int) + 7) rfl rfl
    obtain ⟨σ1, k1, A2⟩ := s1 (d := d) (by omega) (n := 34 + 3 * (i : Int)) A1 (by omega) (lk_s _ _ _ _)
    have g3 : lkT (cT1 (34 + 3 * (i : Int)) ((34 + 3 * (i : Int), -1, 0) :: slT i)) 33 (-1) = 23 := by
      unfold cT1
      (repeat rw [lk_n (by omega)]); exact h3
    have g4 : lkT (cT1 (34 + 3 * (i : Int)) ((34 + 3 * (i : Int), -1, 0) :: slT i)) 33 (-2) = 3 := by
      unfold cT1
      (repeat rw [lk_n (by omega)]); exact h4
    have g5 : lkT (cT1 (34 + 3 * (i : Int)) ((34 + 3 * (i : Int), -1, 0) :: slT i)) (34 + 3 * (i : Int)) (-1) = 0 := by
      unfold cT1
      rw [lk_n (by omega), lk_n (by omega), lk_n (by omega), lk_n (by omega), lk_n (by omega), lk_n (by omega), lk_n (by omega), lk_s]
    have b3 := A2.at (a := 33) (j := -1) (v := 23) (by omega) (by omega) g3
    have b4 := A2.at (a := 33) (j := -2) (v := 3) (by omega) (by omega) g4
    have b5 := A2.at (a := 34 + 3 * (i : Int)) (j := -1) (v := 0) (by omega) (by omega) g5
    have A3 := A2.up (a := 33) (i : Int) (34 + 3 * (i : Int)) (by omega) (by omega)
    have b0 := A2.1
    obtain ⟨σ', j1, j2⟩ := ih (i + 1) _ (by omega) (show TR σ0 _ (34 + 3 * ((i + 1 : Nat) : Int)) (M + 520 * ((i + 1 : Nat) : Int)) (slT (i + 1)) by
      rw [show 34 + 3 * ((i + 1 : Nat) : Int) = 34 + 3 * (i : Int) + 3 by omega, show M + 520 * ((i + 1 : Nat) : Int) = M + 520 * (i : Int) + 7 + 513 by omega]
      exact A3)
    refine ⟨σ', ?_, j2⟩
    rw [sg_0_14]
    (try simp (disch := omega) only [hT.1, wr_id2])
    repeat (first | ((with_reducible refine step_t ?_ ?_); with_reducible exact True.intro) | ((with_reducible refine step_t ?_ ?_); omega) | ((with_reducible refine step_f ?_ ?_); omega))
    refine step_c (k1) ?_
    try dsimp only
    (try simp (disch := omega) only [a1, wr_id2])
    repeat (first | ((with_reducible refine step_t ?_ ?_); with_reducible exact True.intro) | ((with_reducible refine step_t ?_ ?_); omega) | ((with_reducible refine step_f ?_ ?_); omega))
    exact j1
def tT1 : TB := (32, 1, 43) :: cT1 43 ((43, -1, 0) :: slT 3)
def tT2 : TB := (32, 2, 46) :: cT2 ((46, -1, 3) :: tT1)
def tT3 : TB := (32, 3, 79) :: cT3 ((79, -1, 5) :: tT2)
def tT4 : TB := (32, 4, 82) :: cT4 82 2400 ((82, -1, 1) :: tT3)
def tT5 : TB := (32, 5, 84) :: cT6 ((84, -1, 7) :: tT4)
def tT6 : TB := (32, 6, 90) :: cT7 ((90, -1, 6) :: tT5)
def tT7 : TB := (32, 7, 94) :: cT8 ((94, -1, 4) :: tT6)
def tT8 : TB := (32, 8, 97) :: cT9 ((97, -1, 2) :: tT7)
theorem s0 {d : Nat} (h : 12 ≤ d) {σ0 σ : HP} (hT : TR σ0 σ 33 9 [(32, -1, 8)]) : ∃ σ' m, clR PG0 MX d 0 [vR 32] σ = some (0, σ') ∧ TR σ0 σ' 101 m tT8 ∧ 0 ≤ m ∧ m ≤ 30000 := by
  obtain ⟨d, rfl⟩ := ob1 (show 1 ≤ d by omega)
  have a0 := hT.at (a := 32) (j := -1) (v := 8) (by omega) (by omega) rfl
  have A1 := hT.nA 23 3 (n' := 34) (m' := 12) (by omega) (by omega)
  have a1 := A1.at (a := 32) (j := -1) (v := 8) (by omega) (by omega) rfl
  have A2 := A1.up (a := 32) 0 33 (by omega) (by omega)
  obtain ⟨σ1, j1, B1⟩ := s0l (d := d) (by omega) (M := 12) 3 0 _ rfl (show TR σ0 _ (34 + 3 * ((0 : Nat) : Int)) (12 + 520 * ((0 : Nat) : Int)) (slT 0) from A2)
  have C1 := B1.nO 0 7 (n' := 43 + 1) (m' := 1579) (by omega) (by omega)
  obtain ⟨σ2, j2, B2⟩ := s1 (d := d) (by omega) (n := 43) C1 (by omega) (lk_s _ _ _ _)
  have B2 : TR σ0 σ2 46 2092 (cT1 43 ((43, -1, 0) :: slT 3)) := B2
  have b2 := B2.at (a := 32) (j := -1) (v := 8) (by omega) (by omega) (by decide +kernel)
  have D2 := B2.up (a := 32) 1 43 (by omega) (by omega)
  have C2 := D2.nO 3 4 (n' := 47) (m' := 2096) (by omega) (by omega)
  obtain ⟨σ3, j3, B3⟩ := s2 (d := d) (by omega) C2 (lk_s _ _ _ _)
  have b3 := B3.at (a := 32) (j := -1) (v := 8) (by omega) (by omega) (by decide +kernel)
  have D3 := B3.up (a := 32) 2 46 (by omega) (by omega)
  have C3 := D3.nO 5 6 (n' := 80) (m' := 7322) (by omega) (by omega)
  obtain ⟨σ4, j4, B4⟩ := s3 (d := d) (by omega) C3 (lk_s _ _ _ _)
  have b4 := B4.at (a := 32) (j := -1) (v := 8) (by omega) (by omega) (by decide +kernel)
  have D4 := B4.up (a := 32) 3 79 (by omega) (by omega)
  have C4 := D4.nO 1 2 (n' := 82 + 1) (m' := 7726) (by omega) (by omega)
  obtain ⟨σ5, j5, B5⟩ := s4 (d := d) (by omega) (n := 82) (k := 2400) C4 (by omega) (lk_s _ _ _ _) (by omega)
  have B5 : TR σ0 σ5 84 10126 (cT4 82 2400 ((82, -1, 1) :: tT3)) := B5
  have b5 := B5.at (a := 32) (j := -1) (v := 8) (by omega) (by omega) (by decide +kernel)
  have D5 := B5.up (a := 32) 4 82 (by omega) (by omega)
  have C5 := D5.nO 7 5 (n' := 85) (m' := 10131) (by omega) (by omega)
  obtain ⟨σ6, j6, B6⟩ := s6 (d := d) (by omega) C5 (lk_s _ _ _ _)
  have b6 := B6.at (a := 32) (j := -1) (v := 8) (by omega) (by omega) (by decide +kernel)
  have D6 := B6.up (a := 32) 5 84 (by omega) (by omega)
  have C6 := D6.nO 6 3 (n' := 91) (m' := 11167) (by omega) (by omega)
  obtain ⟨σ7, j7, B7⟩ := s7 (d := d) (by omega) C6 (lk_s _ _ _ _)
  have b7 := B7.at (a := 32) (j := -1) (v := 8) (by omega) (by omega) (by decide +kernel)
  have D7 := B7.up (a := 32) 6 90 (by omega) (by omega)
  have C7 := D7.nO 4 2 (n' := 95) (m' := 11939) (by omega) (by omega)
  obtain ⟨σ8, j8, B8⟩ := s8 (d := d) (by omega) C7 (lk_s _ _ _ _)
  have b8 := B8.at (a := 32) (j := -1) (v := 8) (by omega) (by omega) (by decide +kernel)
  have D8 := B8.up (a := 32) 7 94 (by omega) (by omega)
  have C8 := D8.nO 2 5 (n' := 98) (m' := 11960) (by omega) (by omega)
  obtain ⟨σ9, j9, B9⟩ := s9 (d := d) (by omega) C8 (lk_s _ _ _ _)
  have b9 := B9.at (a := 32) (j := -1) (v := 8) (by omega) (by omega) (by decide +kernel)
  have D9 := B9.up (a := 32) 8 97 (by omega) (by omega)
  have e1 := B1.1; have e2 := D2.1; have e3 := D3.1; have e4 := D4.1; have e5 := D5.1; have e6 := D6.1; have e7 := D7.1; have e8 := D8.1
  have f2 := B2.1; have f3 := B3.1; have f4 := B4.1; have f5 := B5.1; have f6 := B6.1; have f7 := B7.1; have f8 := B8.1; have f9 := B9.1
  refine ⟨_, _, ?_, D9, by omega, by omega⟩
  rw [ce_0, sg_0_0]
  repeat (first | ((with_reducible refine step_t ?_ ?_); with_reducible exact True.intro) | ((with_reducible refine step_t ?_ ?_); omega) | ((with_reducible refine step_f ?_ ?_); omega))
  refine step_c (p_obj (by omega) σ _) ?_
  try dsimp only
  (try simp (disch := omega) only [hT.1, A1.1, a1, wr_id2])
  repeat (first | ((with_reducible refine step_t ?_ ?_); with_reducible exact True.intro) | ((with_reducible refine step_t ?_ ?_); omega) | ((with_reducible refine step_f ?_ ?_); omega))
  refine Eq.trans j1 ?_
  rw [sg_0_38]
  (try simp (disch := omega) only [e1, wr_id2])
  repeat (first | ((with_reducible refine step_t ?_ ?_); with_reducible exact True.intro) | ((with_reducible refine step_t ?_ ?_); omega) | ((with_reducible refine step_f ?_ ?_); omega))
  refine step_c (j2) ?_
  try dsimp only
  repeat (first | ((with_reducible refine step_t ?_ ?_); with_reducible exact True.intro) | ((with_reducible refine step_t ?_ ?_); omega) | ((with_reducible refine step_f ?_ ?_); omega))
  rw [sg_0_49]
  (try simp (disch := omega) only [e2, wr_id2])
  repeat (first | ((with_reducible refine step_t ?_ ?_); with_reducible exact True.intro) | ((with_reducible refine step_t ?_ ?_); omega) | ((with_reducible refine step_f ?_ ?_); omega))
  refine step_c (j3) ?_
  try dsimp only
  repeat (first | ((with_reducible refine step_t ?_ ?_); with_reducible exact True.intro) | ((with_reducible refine step_t ?_ ?_); omega) | ((with_reducible refine step_f ?_ ?_); omega))
  rw [sg_0_60]
  (try simp (disch := omega) only [e3, wr_id2])
  repeat (first | ((with_reducible refine step_t ?_ ?_); with_reducible exact True.intro) | ((with_reducible refine step_t ?_ ?_); omega) | ((with_reducible refine step_f ?_ ?_); omega))
  refine step_c (j4) ?_
  try dsimp only
  repeat (first | ((with_reducible refine step_t ?_ ?_); with_reducible exact True.intro) | ((with_reducible refine step_t ?_ ?_); omega) | ((with_reducible refine step_f ?_ ?_); omega))
  rw [sg_0_71]
  (try simp (disch := omega) only [e4, wr_id2])
  repeat (first | ((with_reducible refine step_t ?_ ?_); with_reducible exact True.intro) | ((with_reducible refine step_t ?_ ?_); omega) | ((with_reducible refine step_f ?_ ?_); omega))
  refine step_c (j5) ?_
  try dsimp only
  repeat (first | ((with_reducible refine step_t ?_ ?_); with_reducible exact True.intro) | ((with_reducible refine step_t ?_ ?_); omega) | ((with_reducible refine step_f ?_ ?_); omega))
  rw [sg_0_85]
  (try simp (disch := omega) only [e5, wr_id2])
  repeat (first | ((with_reducible refine step_t ?_ ?_); with_reducible exact True.intro) | ((with_reducible refine step_t ?_ ?_); omega) | ((with_reducible refine step_f ?_ ?_); omega))
  refine step_c (j6) ?_
  try dsimp only
  repeat (first | ((with_reducible refine step_t ?_ ?_); with_reducible exact True.intro) | ((with_reducible refine step_t ?_ ?_); omega) | ((with_reducible refine step_f ?_ ?_); omega))
  rw [sg_0_96]
  (try simp (disch := omega) only [e6, wr_id2])
  repeat (first | ((with_reducible refine step_t ?_ ?_); with_reducible exact True.intro) | ((with_reducible refine step_t ?_ ?_); omega) | ((with_reducible refine step_f ?_ ?_); omega))
  refine step_c (j7) ?_
  try dsimp only
  repeat (first | ((with_reducible refine step_t ?_ ?_); with_reducible exact True.intro) | ((with_reducible refine step_t ?_ ?_); omega) | ((with_reducible refine step_f ?_ ?_); omega))
  rw [sg_0_107]
  (try simp (disch := omega) only [e7, wr_id2])
  repeat (first | ((with_reducible refine step_t ?_ ?_); with_reducible exact True.intro) | ((with_reducible refine step_t ?_ ?_); omega) | ((with_reducible refine step_f ?_ ?_); omega))
  refine step_c (j8) ?_
  try dsimp only
  repeat (first | ((with_reducible refine step_t ?_ ?_); with_reducible exact True.intro) | ((with_reducible refine step_t ?_ ?_); omega) | ((with_reducible refine step_f ?_ ?_); omega))
  rw [sg_0_118]
  (try simp (disch := omega) only [e8, wr_id2])
  repeat (first | ((with_reducible refine step_t ?_ ?_); with_reducible exact True.intro) | ((with_reducible refine step_t ?_ ?_); omega) | ((with_reducible refine step_f ?_ ?_); omega))
  refine step_c (j9) ?_
  try dsimp only
  repeat (first | ((with_reducible refine step_t ?_ ?_); with_reducible exact True.intro) | ((with_reducible refine step_t ?_ ?_); omega) | ((with_reducible refine step_f ?_ ?_); omega))
  rfl
